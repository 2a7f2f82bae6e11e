import java.util.List;

/** Promises 39 and 40: save and restore. */
public final class SnapshotTest {
    public static void main(String[] args) {
        nothingSaved();
        beforePlay();
        whilePlayed();
        whatStays();
        again();
        whatStopBringsBack();
        withTurns();
        Check.end();
    }

    private static Game world() {
        Game w = new Game();
        w.addRoom(true);
        w.addRoom(false);
        int box = w.addThing(1, 0, 1, 3);
        int lamp = w.addThing(3, 1, 0, 2);
        int door = w.addThing(4, 3, 2, 5);
        w.connect(0, 0, 1, -1);
        w.connect(1, 2, 0, door);
        w.setFlag(door, 1, true);
        w.setCapacity(box, 9);
        w.setFlag(box, 1, true);
        w.setKey(box, lamp);
        w.setWorth(lamp, 4);
        w.setFuel(lamp, 20);
        w.put(box, 0, 0);
        w.put(lamp, 3, 0);
        w.addDaemon(1, box, 1, false);
        w.addDaemon(0, box, 2, true);
        return w;
    }

    private static void nothingSaved() {
        Game w = world();
        Check.refused("restore", w, Check.STATE, w::restore);
        w.begin(0);
        Check.refused("restore while played", w, Check.STATE, w::restore);
        Game empty = new Game();
        Check.due("save nothing", 0, empty::save);
        empty.addRoom(true);
        empty.addThing(0, 0, 0, 1);
        Check.due("restore nothing", 0, empty::restore);
        Check.due("no rooms", 0, () -> empty.count(0));
        Check.due("no things", 0, () -> empty.count(1));
    }

    private static void beforePlay() {
        Game w = world();
        List<Object> before = Check.worldPicture(w);
        Check.due("save", 3, w::save);
        Check.dueValue("save changes nothing", before, Check.worldPicture(w));
        w.addRoom(true);
        w.addThing(2, 6, 3, 9);
        w.setCapacity(3, 30);
        w.connect(0, 0, -1, -1);
        w.connect(0, 3, 2, 2);
        w.connect(1, 2, 2, -1);
        w.setFlag(0, 1, false);
        w.setFlag(0, 2, true);
        w.setFlag(1, 4, true);
        w.setKey(0, -1);
        w.setWorth(1, 9);
        w.setFuel(1, 99);
        w.setCapacity(0, 30);
        w.put(1, 1, 0);
        w.put(0, 2, 3);
        w.addDaemon(3, 1, 4, true);
        Check.due("restore", 3, w::restore);
        Check.dueValue("as it was", before, Check.worldPicture(w));
        Check.due("a new room is new", 2, () -> w.addRoom(false));
        for (int way = 0; way < 6; way++) {
            final int d = way;
            Check.due("without exits", Check.MISSING, () -> w.exit(2, d));
        }
        Check.due("a new thing is new", 3, () -> w.addThing(2, 6, 3, 9));
        Check.due("without capacity", 0, () -> w.thing(3, 4));
        Check.due("a new daemon", 2, () -> w.addDaemon(0, 2, 1, false));
        w.begin(2);
        Check.due("restore while played", 3, w::restore);
        Check.dueValue("as it was", before, Check.worldPicture(w));
        Check.due("not played", Check.STATE, w::stop);
    }

    private static void whilePlayed() {
        Game w = world();
        w.begin(0);
        Check.says(w, "light lamp. go north. wait", "done 3");
        List<Object> before = Check.worldPicture(w);
        Check.due("save", 3, w::save);
        Check.due("the turns stay", 3, () -> w.count(6));
        Check.says(w, "quench lamp. drop lamp. south", "done 3");
        Check.due("restore", 3, w::restore);
        Check.dueValue("as it was", before, Check.worldPicture(w));
        Check.refused("undo no more", w, Check.STATE, w::undo);
        Check.due("replayed", true, w::isReplayed);
        Check.says(w, "wait. wait", "done 2");
        Check.due("two turns", 2, () -> w.count(6));
        Check.due("all turns", 5, () -> w.count(7));
        Check.due("replayed", true, w::isReplayed);
        w.undo();
        w.undo();
        Check.dueValue("as it was", before, Check.worldPicture(w));
        Check.refused("undo no more", w, Check.STATE, w::undo);
        w.stop();
        Check.due("restore while not played", 3, w::restore);
        Check.dueValue("as it was", before, Check.worldPicture(w));
        Check.due("the direction goes on, too", w.outerLater(0, 1), () -> {
            Check.say(w, "wait");
            return w.outer(0);
        });
    }

    private static void whatStays() {
        Game w = world();
        w.begin(0);
        Check.says(w, "wait. up", "done 1, 9 -1 1");
        Check.says(w, "wax", "fault 2");
        Check.type(w, "take");
        w.save();
        Check.due("the text stays", 4, () -> w.count(5));
        Check.due("the turns stay", 1, () -> w.count(6));
        Check.type(w, " all. ");
        Check.due("another fault", Check.ARGUMENT, w::command);
        Check.says(w, "wait. wait. drop lamp. drop lamp", "done 3, 5 -1 3");
        Check.says(w, "!", "fault 0");
        Check.type(w, "wa");
        w.restore();
        Check.due("the text stays", 2, () -> w.count(5));
        Check.due("the fault position stays", 0, w::faultPosition);
        Check.due("the refusal stays", 5, () -> w.refusal(0));
        Check.due("the refusal stays", 3, () -> w.refusal(2));
        Check.due("the turns do not", 0, () -> w.count(6));
    }

    private static void again() {
        Game w = world();
        w.save();
        w.begin(1);
        Check.due("in place of the earlier one", 3, w::save);
        w.stop();
        Check.due("restore", 3, w::restore);
        Check.due("the later one", 1, () -> w.count(4));
        Check.says(w, "wait", "done 1");
        Check.due("restore again", 3, w::restore);
        Check.due("it is kept", 0, () -> w.count(3));
        Check.due("the later one", 1, () -> w.count(4));
        w.stop();
        w.addThing(0, 0, 0, 1);
        Check.due("save", 4, w::save);
        Check.due("restore", 4, w::restore);
    }

    private static void whatStopBringsBack() {
        Game w = world();
        List<Object> before = Check.worldPicture(w);
        w.begin(0);
        Check.says(w, "drop lamp. wait", "done 2");
        w.save();
        w.stop();
        w.put(1, 0, 1);
        w.setFuel(1, 1);
        w.begin(1);
        Check.says(w, "wait", "done 1");
        w.restore();
        Check.due("the clock of the saved play", 2, () -> w.count(3));
        Check.due("replayed", true, w::isReplayed);
        Check.due("stop", 2, w::stop);
        Check.dueValue("the world as it was then", before, Check.worldPicture(w));
    }

    private static void withTurns() {
        Game w = world();
        w.begin(0);
        for (int i = 0; i < 4; i++) {
            Check.says(w, "wait. light lamp. quench lamp. look. wait", "done 5");
        }
        w.save();
        for (int i = 0; i < 6; i++) {
            w.undo();
        }
        Check.says(w, "drop lamp. take lamp. north. take all", "done 4");
        Check.due("replayed", true, w::isReplayed);
        w.restore();
        Check.due("turns", 16, () -> w.count(7));
        Check.due("replayed", true, w::isReplayed);
        Check.says(w, "wait", "done 1");
        Check.due("replayed", true, w::isReplayed);
    }
}
