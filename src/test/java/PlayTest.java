import java.util.List;

/** Promises 12 and 13, and what the text, the fault position and the refusal keep through them. */
public final class PlayTest {
    public static void main(String[] args) {
        begin();
        stop();
        whatStays();
        Check.end();
    }

    private static Game world() {
        Game w = new Game();
        w.addRoom(true);
        w.addRoom(false);
        w.connect(0, 0, 1, -1);
        w.connect(1, 2, 0, -1);
        int box = w.addThing(1, 0, 0, 3);
        int lamp = w.addThing(3, 1, 0, 2);
        w.setCapacity(box, 9);
        w.setFuel(lamp, 2);
        w.put(box, 0, 0);
        w.put(lamp, 3, 0);
        w.addDaemon(1, box, 1, false);
        w.addDaemon(0, box, 2, true);
        return w;
    }

    private static void begin() {
        Game w = world();
        for (int room : new int[] {-1, 2, Integer.MIN_VALUE, Integer.MAX_VALUE}) {
            Check.refused("begin in " + room, w, Check.INDEX, () -> w.begin(room));
        }
        Check.due("begin", 2, () -> w.begin(1));
        int[] counts = {2, 2, 2, 0, 1, 0, 0, 0, 0, 2};
        for (int what = 0; what < counts.length; what++) {
            final int n = what;
            Check.due("begun: count " + n, counts[n], () -> w.count(n));
        }
        Check.due("the time is the period", 1, () -> w.daemon(0, 3));
        Check.due("the time is the period", 2, () -> w.daemon(1, 3));
        Check.due("no events caused", 0, () -> w.daemon(0, 4));
        Check.refused("begin again", w, Check.STATE, () -> w.begin(0));
        Check.refused("begin again, no room", w, Check.INDEX, () -> w.begin(2));
        Check.says(w, "wait. wait. wait", "done 3");
        Check.due("events", 3, () -> w.count(8));
        w.stop();
        Check.due("begin anew", 2, () -> w.begin(0));
        Check.due("no events", 0, () -> w.count(8));
        Check.due("no events caused", 0, () -> w.daemon(0, 4));
        Check.due("nothing to be undone", Check.STATE, w::undo);
        Check.says(w, "wait. wait", "done 2");
        Check.due("the direction begins anew, too", 0, () -> w.outer(0));
        Check.due("the one that acts once has acted", -1, () -> w.daemon(1, 3));
    }

    private static void stop() {
        Game w = world();
        Check.refused("stop", w, Check.STATE, w::stop);
        w.setFlag(0, 1, true);
        List<Object> before = Check.worldPicture(w);
        w.begin(0);
        Check.says(w, "light lamp. wait. go north. drop lamp", "done 4");
        Check.due("the fuel is used", 0, () -> w.thing(1, 6));
        Check.due("stop", 4, w::stop);
        Check.dueValue("the world as it was", before, Check.worldPicture(w));
        Check.due("nothing to be undone", Check.STATE, w::undo);
        Check.due("nothing to be undone", 0, () -> w.count(6));
        Check.due("no time", -1, () -> w.daemon(0, 3));
        Check.refused("stop again", w, Check.STATE, w::stop);
        Check.due("made on", 2, () -> w.addRoom(true));
        w.begin(0);
        Check.due("stop at once", 0, w::stop);
    }

    private static void whatStays() {
        Game w = world();
        Check.type(w, "take ");
        Check.due("append while not played", 5, () -> w.count(5));
        w.begin(0);
        Check.due("the text stays", 5, () -> w.count(5));
        Check.says(w, "lamp", "done 0, 5 -1 0");
        Check.says(w, "take lump", "fault 6");
        Check.type(w, "wai");
        w.stop();
        Check.due("the text stays", 3, () -> w.count(5));
        Check.due("the fault position stays", 6, w::faultPosition);
        Check.due("the refusal stays", 5, () -> w.refusal(0));
        w.begin(0);
        Check.due("the fault position stays", 6, w::faultPosition);
        Check.due("the refusal stays", 0, () -> w.refusal(2));
        Check.says(w, "t", "done 1");
    }
}
