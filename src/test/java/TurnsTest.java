import java.util.ArrayList;
import java.util.List;

/** Promises 20, 21 and 34 to 36: turns, lamps, daemons and events, undo, the replay, and what will be later. */
public final class TurnsTest {
    private static final int NORTH = 0;
    private static final int EAST = 1;
    private static final int SOUTH = 2;
    private static final int WEST = 3;

    public static void main(String[] args) {
        lamps();
        daemonArguments();
        eventArguments();
        closer();
        mover();
        moverAndDoors();
        moverOnlyInRooms();
        gatherer();
        gathererOnlyIf();
        switcher();
        once();
        order();
        eventsKept();
        undo();
        undoManyTurns();
        undoAll();
        replay();
        replayLong();
        outerLater();
        Check.end();
    }

    private static Game rooms(int rooms) {
        Game w = new Game();
        for (int room = 0; room < rooms; room++) {
            w.addRoom(true);
        }
        return w;
    }

    private static int lamp(Game w, int adjective, int fuel, boolean isLit) {
        int lamp = w.addThing(3, 1, adjective, 1);
        w.setFuel(lamp, fuel);
        w.setFlag(lamp, 4, isLit);
        return lamp;
    }

    private static int box(Game w, int capacity, boolean isOpen, int room) {
        int box = w.addThing(1, 0, 0, 1);
        w.setCapacity(box, capacity);
        w.setFlag(box, 1, isOpen);
        w.put(box, 0, room);
        return box;
    }

    private static int coin(Game w, int size, int room) {
        int coin = w.addThing(0, 4, 0, size);
        w.put(coin, 0, room);
        return coin;
    }

    private static String events(Game w) {
        StringBuilder all = new StringBuilder();
        for (int i = 0; i < w.count(8); i++) {
            all.append(i == 0 ? "" : " ").append(w.event(i));
        }
        return all.toString();
    }

    private static void dueEvents(Game w, String want) {
        Check.dueValue("events", want, events(w));
    }

    private static void waits(Game w, int turns) {
        for (int i = 0; i < turns; i++) {
            Check.type(w, "wait");
            Check.due("wait", 1, w::command);
        }
    }

    private static void lamps() {
        Game w = rooms(1);
        int two = lamp(w, 1, 2, true);
        int dark = lamp(w, 2, 3, false);
        int one = lamp(w, 3, 1, true);
        int held = lamp(w, 0, 2, false);
        w.put(held, 3, 0);
        w.begin(0);
        Check.says(w, "look", "done 1");
        Check.due("look burns nothing", 2, () -> w.thing(two, 6));
        Check.says(w, "light lamp", "done 1");
        Check.due("lit in this turn", 1, () -> w.thing(held, 6));
        Check.due("burns wherever it is", 1, () -> w.thing(two, 6));
        Check.due("burned down", 0, () -> w.thing(one, 6));
        Check.due("not lit any more", 0, () -> w.thing(one, 8));
        Check.due("not lit", 3, () -> w.thing(dark, 6));
        dueEvents(w, "602");
        Check.says(w, "wait", "done 1");
        Check.due("still has none", 0, () -> w.thing(one, 6));
        dueEvents(w, "602 600 603");
        Check.says(w, "light lamp", "done 0, 11 3 0");
        Check.due("refused is no turn", 2, () -> w.count(3));
        Game quenched = rooms(1);
        int last = lamp(quenched, 0, 1, true);
        quenched.put(last, 3, 0);
        quenched.begin(0);
        Check.says(quenched, "quench lamp. wait", "done 2");
        Check.due("quenched in time", 1, () -> quenched.thing(last, 6));
        dueEvents(quenched, "");
    }

    private static void daemonArguments() {
        Game w = rooms(1);
        Check.refused("no daemon", w, Check.INDEX, () -> w.daemon(0, 6));
        int box = box(w, 0, false, 0);
        w.addDaemon(0, box, 7, true);
        for (int daemon : new int[] {-1, 1, Integer.MIN_VALUE, Integer.MAX_VALUE}) {
            Check.refused("daemon " + daemon, w, Check.INDEX, () -> w.daemon(daemon, 6));
        }
        for (int what : new int[] {-1, 6, Integer.MIN_VALUE, Integer.MAX_VALUE}) {
            Check.refused("daemon 0 " + what, w, Check.ARGUMENT, () -> w.daemon(0, what));
        }
        int[] due = {0, box, 7, 7, 0, 1};
        for (int what = 0; what < 6; what++) {
            final int n = what;
            Check.due("daemon " + n, n == 3 ? -1 : due[n], () -> w.daemon(0, n));
        }
        w.begin(0);
        for (int what = 0; what < 6; what++) {
            final int n = what;
            Check.due("daemon " + n, due[n], () -> w.daemon(0, n));
        }
    }

    private static void eventArguments() {
        Game w = rooms(1);
        int box = box(w, 0, true, 0);
        w.addDaemon(0, box, 1, true);
        Check.refused("no event", w, Check.INDEX, () -> w.event(0));
        w.begin(0);
        Check.refused("no event", w, Check.INDEX, () -> w.event(0));
        waits(w, 1);
        Check.due("event", 100 + box, () -> w.event(0));
        for (int event : new int[] {-1, 1, 40, Integer.MIN_VALUE, Integer.MAX_VALUE}) {
            Check.refused("event " + event, w, Check.INDEX, () -> w.event(event));
        }
        w.stop();
        Check.refused("no event", w, Check.INDEX, () -> w.event(0));
    }

    private static void closer() {
        Game w = rooms(2);
        int door = w.addThing(4, 3, 0, 1);
        int box = box(w, 0, true, 1);
        w.connect(0, NORTH, 1, door);
        w.setFlag(door, 1, true);
        w.addDaemon(0, door, 2, false);
        w.addDaemon(0, box, 3, false);
        w.begin(0);
        Check.says(w, "wait", "done 1");
        Check.due("not yet", 2, () -> w.thing(door, 8));
        Check.says(w, "wait. north", "done 1, 6 " + door + " 1");
        dueEvents(w, "100");
        Check.due("next time", 4, () -> w.daemon(0, 3));
        Check.due("caused", 1, () -> w.daemon(0, 4));
        Check.says(w, "wait", "done 1");
        dueEvents(w, "100 101");
        Check.due("closed", 0, () -> w.thing(box, 8));
        Check.says(w, "wait", "done 1");
        Check.due("acted without an event", 6, () -> w.daemon(0, 3));
        Check.due("caused", 1, () -> w.daemon(0, 4));
        Check.says(w, "open door. wait", "done 2");
        dueEvents(w, "100 101 100");
        Check.due("caused", 2, () -> w.daemon(0, 4));
        Check.due("next time", 8, () -> w.daemon(0, 3));
    }

    private static void mover() {
        Game w = rooms(3);
        int box = box(w, 5, false, 0);
        int coin = coin(w, 1, 0);
        w.put(coin, 1, box);
        w.setFlag(box, 0, true);
        w.connect(0, NORTH, 1, -1);
        w.connect(0, EAST, 2, -1);
        w.connect(1, NORTH, 0, -1);
        w.connect(1, WEST, 0, -1);
        w.connect(2, EAST, 2, -1);
        w.connect(2, SOUTH, 0, -1);
        w.addDaemon(1, box, 1, false);
        w.begin(0);
        // North; west, which is before north behind north; north, which is the first one behind west; and round.
        for (int room : new int[] {1, 0, 1, 0}) {
            waits(w, 1);
            Check.due("moved", room, () -> w.outer(box));
            Check.due("with what is in it", room, () -> w.outer(coin));
        }
        w.stop();
        w.connect(1, WEST, -1, -1);
        w.begin(0);
        // North twice; then east, south and east again, which are behind the one before.
        for (int room : new int[] {1, 0, 2, 0, 1, 0, 2}) {
            waits(w, 1);
            Check.due("moved", room, () -> w.outer(box));
        }
        Check.due("an event each", 7, () -> w.daemon(0, 4));
        dueEvents(w, "200 200 200 200 200 200 200");
        Game circle = rooms(1);
        int ball = coin(circle, 1, 0);
        circle.connect(0, SOUTH, 0, -1);
        circle.addDaemon(1, ball, 1, false);
        circle.begin(0);
        waits(circle, 3);
        dueEvents(circle, "200 200 200");
    }

    private static void moverAndDoors() {
        Game w = rooms(3);
        int door = w.addThing(4, 3, 0, 1);
        int coin = coin(w, 1, 0);
        w.connect(0, EAST, 1, door);
        w.connect(1, WEST, 0, door);
        w.addDaemon(1, coin, 1, false);
        w.begin(0);
        waits(w, 2);
        Check.due("a closed door", 0, () -> w.outer(coin));
        dueEvents(w, "");
        Check.due("its time goes on", 3, () -> w.daemon(0, 3));
        Check.due("none caused", 0, () -> w.daemon(0, 4));
        Check.says(w, "open door", "done 1");
        Check.due("an open door", 1, () -> w.outer(coin));
        Check.says(w, "close door", "done 1");
        Check.due("closed again", 1, () -> w.outer(coin));
        w.stop();
        w.connect(0, SOUTH, 2, -1);
        w.connect(2, NORTH, 0, -1);
        w.begin(0);
        waits(w, 1);
        Check.due("past the closed door", 2, () -> w.outer(coin));
        waits(w, 1);
        Check.says(w, "open door", "done 1");
        Check.due("first behind north", 1, () -> w.outer(coin));
    }

    private static void moverOnlyInRooms() {
        Game w = rooms(2);
        int box = box(w, 9, true, 0);
        int coin = coin(w, 1, 0);
        int gone = w.addThing(0, 5, 0, 1);
        w.put(coin, 1, box);
        w.connect(0, NORTH, 1, -1);
        w.connect(0, EAST, 0, -1);
        w.addDaemon(1, coin, 1, false);
        w.addDaemon(1, gone, 1, false);
        w.begin(0);
        waits(w, 1);
        Check.says(w, "take coin", "done 1");
        dueEvents(w, "");
        Check.due("nowhere", -2, () -> w.outer(gone));
        Check.due("carried", -1, () -> w.outer(coin));
        Check.due("none caused", 0, () -> w.daemon(0, 4));
        Check.says(w, "drop coin", "done 1");
        Check.due("moved, north first", 1, () -> w.outer(coin));
        dueEvents(w, "20" + coin);
    }

    private static void gatherer() {
        Game w = rooms(2);
        int fixed = coin(w, 1, 0);
        int heavy = coin(w, 6, 0);
        int box = box(w, 5, true, 0);
        int far = coin(w, 1, 1);
        int tray = w.addThing(2, 7, 0, 2);
        int onTray = w.addThing(0, 4, 0, 1);
        int light = coin(w, 3, 0);
        int last = coin(w, 1, 0);
        w.setCapacity(tray, 5);
        w.put(tray, 0, 0);
        w.put(onTray, 2, tray);
        w.setFlag(fixed, 0, true);
        w.addDaemon(2, box, 1, false);
        w.begin(0);
        waits(w, 1);
        Check.due("the lowest one that can be", box, () -> w.thing(tray, 10));
        Check.due("with what is on it", tray, () -> w.thing(onTray, 10));
        waits(w, 1);
        Check.due("up to the capacity", box, () -> w.thing(light, 10));
        waits(w, 2);
        Check.due("nothing more", 0, () -> w.thing(last, 9));
        Check.due("too great", 0, () -> w.thing(heavy, 9));
        Check.due("fixed", 0, () -> w.thing(fixed, 9));
        Check.due("in another room", 0, () -> w.thing(far, 9));
        dueEvents(w, "304 306");
        Check.due("caused", 2, () -> w.daemon(0, 4));
        Check.due("its time goes on", 5, () -> w.daemon(0, 3));
    }

    private static void gathererOnlyIf() {
        Game w = rooms(1);
        int chest = w.addThing(1, 6, 0, 1);
        int box = box(w, 9, false, 0);
        int coin = coin(w, 1, 0);
        w.setCapacity(chest, 9);
        w.addDaemon(2, box, 1, false);
        w.begin(0);
        waits(w, 2);
        dueEvents(w, "");
        Check.says(w, "take box. open box", "done 2");
        dueEvents(w, "");
        Check.says(w, "drop box", "done 1");
        Check.due("open and in a room", box, () -> w.thing(coin, 10));
        Check.due("not itself", 0, () -> w.thing(box, 9));
        w.stop();
        w.put(chest, 0, 0);
        w.put(box, 1, chest);
        w.setFlag(chest, 1, true);
        w.setFlag(box, 1, true);
        w.begin(0);
        waits(w, 2);
        dueEvents(w, "");
        Check.due("none caused", 0, () -> w.daemon(0, 4));
        w.stop();
        w.put(box, 0, 0);
        w.begin(0);
        waits(w, 3);
        dueEvents(w, "300 302");
    }

    private static void switcher() {
        Game w = rooms(1);
        int lamp = lamp(w, 0, 3, false);
        w.addDaemon(3, lamp, 2, false);
        w.begin(0);
        waits(w, 2);
        Check.due("lit", 16, () -> w.thing(lamp, 8));
        Check.due("burns in this turn", 2, () -> w.thing(lamp, 6));
        waits(w, 2);
        Check.due("quenched before it burns", 0, () -> w.thing(lamp, 8));
        Check.due("fuel", 1, () -> w.thing(lamp, 6));
        dueEvents(w, "400 500");
        waits(w, 2);
        dueEvents(w, "400 500 400 600");
        Check.due("burned down", 0, () -> w.thing(lamp, 8));
        waits(w, 2);
        dueEvents(w, "400 500 400 600");
        Check.due("burning down is no event of a daemon", 3, () -> w.daemon(0, 4));
        Check.due("its time goes on", 10, () -> w.daemon(0, 3));
    }

    private static void once() {
        Game w = rooms(1);
        int box = box(w, 0, true, 0);
        w.addDaemon(0, box, 1, true);
        w.addDaemon(0, box, 2, true);
        w.begin(0);
        waits(w, 1);
        Check.due("no time", -1, () -> w.daemon(0, 3));
        Check.due("caused", 1, () -> w.daemon(0, 4));
        waits(w, 1);
        Check.due("acted without an event", -1, () -> w.daemon(1, 3));
        Check.due("caused", 0, () -> w.daemon(1, 4));
        Check.says(w, "open box. wait. wait", "done 3");
        Check.due("open", 2, () -> w.thing(box, 8));
        dueEvents(w, "100");
    }

    private static void order() {
        Game w = rooms(2);
        int box = box(w, 9, true, 0);
        int coin = coin(w, 1, 0);
        int far = coin(w, 1, 1);
        w.connect(0, NORTH, 1, -1);
        w.connect(1, SOUTH, 0, -1);
        w.addDaemon(2, box, 1, false);
        w.addDaemon(1, box, 1, false);
        w.addDaemon(2, box, 1, false);
        w.addDaemon(0, box, 1, false);
        w.addDaemon(1, far, 1, false);
        int lamp = lamp(w, 0, 1, true);
        w.begin(0);
        waits(w, 1);
        dueEvents(w, "301 200 302 100 603");
        Check.due("put in before it moved", box, () -> w.thing(coin, 10));
        Check.due("put in after it moved", box, () -> w.thing(far, 10));
        Check.due("lamps burn last", 0, () -> w.thing(lamp, 6));
    }

    private static void eventsKept() {
        Game w = rooms(1);
        int coin = coin(w, 1, 0);
        int lamp = lamp(w, 0, 99, false);
        w.connect(0, NORTH, 0, -1);
        w.addDaemon(3, lamp, 1, true);
        w.addDaemon(1, coin, 1, false);
        w.begin(0);
        waits(w, 39);
        Check.due("40 events", 40, () -> w.count(8));
        Check.due("the earliest", 400 + lamp, () -> w.event(0));
        waits(w, 1);
        Check.due("40 events", 40, () -> w.count(8));
        Check.due("the first is forgotten", 200, () -> w.event(0));
        Check.due("the latest", 200, () -> w.event(39));
        waits(w, 59);
        Check.due("burned down", 600 + lamp, () -> w.event(39));
        Check.due("before it", 200, () -> w.event(38));
        waits(w, 1);
        Check.due("one further", 600 + lamp, () -> w.event(38));
        Check.due("caused, kept or not", 100, () -> w.daemon(1, 4));
        w.undo();
        Check.due("as it was", 600 + lamp, () -> w.event(39));
    }

    private static Game busy() {
        Game w = rooms(2);
        int box = box(w, 9, true, 0);
        int coin = coin(w, 1, 0);
        int lamp = lamp(w, 0, 30, false);
        w.put(lamp, 3, 0);
        w.connect(0, NORTH, 1, -1);
        w.connect(1, SOUTH, 0, -1);
        w.addDaemon(1, coin, 2, false);
        w.addDaemon(2, box, 3, false);
        w.addDaemon(3, lamp, 4, false);
        w.addDaemon(0, box, 5, true);
        return w;
    }

    private static void undo() {
        Game w = busy();
        Check.refused("undo while not played", w, Check.STATE, w::undo);
        w.begin(0);
        Check.refused("undo at first", w, Check.STATE, w::undo);
        Check.says(w, "look", "done 1");
        Check.refused("a look is no turn", w, Check.STATE, w::undo);
        Check.says(w, "take bell", "done 0, 1 -1 0");
        Check.refused("refused is no turn", w, Check.STATE, w::undo);
        List<Object> before = Check.worldPicture(w);
        Check.says(w, "north. look. south. up", "done 3, 9 -1 3");
        Check.due("two turns", 2, () -> w.count(6));
        Check.type(w, "loo");
        Check.due("undo", 1, w::undo);
        Check.due("in the other room", 1, () -> w.count(4));
        Check.due("undo", 0, w::undo);
        Check.dueValue("as it was", before, Check.worldPicture(w));
        Check.due("the text stays", 3, () -> w.count(5));
        Check.due("the refusal stays", 9, () -> w.refusal(0));
        Check.refused("undo no more", w, Check.STATE, w::undo);
        Check.says(w, "x", "fault 3");
        Check.says(w, "wait", "done 1");
        w.stop();
        Check.refused("stop forgets", w, Check.STATE, w::undo);
        w.begin(0);
        Check.refused("begin forgets", w, Check.STATE, w::undo);
    }

    private static void undoManyTurns() {
        Game w = busy();
        w.begin(0);
        for (int turn = 1; turn <= 13; turn++) {
            waits(w, 1);
            final int kept = Math.min(turn, 10);
            Check.due("kept", kept, () -> w.count(6));
        }
        for (int left = 9; left >= 6; left--) {
            final int n = left;
            Check.due("undo", n, w::undo);
        }
        Check.due("clock", 9, () -> w.count(3));
        Check.due("turns", 9, () -> w.count(7));
        waits(w, 2);
        Check.says(w, "up. wait", "done 0, 9 -1 0");
        Check.due("kept", 8, () -> w.count(6));
        for (int left = 7; left >= 0; left--) {
            final int n = left;
            Check.due("undo", n, w::undo);
        }
        Check.due("what is not kept stays so", 3, () -> w.count(3));
        Check.refused("undo no more", w, Check.STATE, w::undo);
        Check.due("replayed", true, w::isReplayed);
    }

    private static void undoAll() {
        Game w = busy();
        String[] commands = {"light lamp", "put coin in box", "go north", "drop lamp", "wait", "take all", "south",
            "drop lamp", "take coin", "open box", "close box", "quench lamp", "take all", "drop all", "north"};
        w.begin(0);
        List<List<Object>> worlds = new ArrayList<>();
        List<Integer> clocks = new ArrayList<>();
        for (String command : commands) {
            List<Object> before = Check.worldPicture(w);
            int clock = w.count(3);
            Check.say(w, command);
            if (w.count(3) > clock) {
                worlds.add(before);
                clocks.add(clock);
            }
        }
        for (int i = 0; i < 10; i++) {
            final int left = 9 - i;
            Check.due("undo", left, w::undo);
            Check.dueValue("the world before", worlds.get(worlds.size() - 1 - i), Check.worldPicture(w));
            Check.due("replayed", true, w::isReplayed);
        }
        Check.due("clock", clocks.get(clocks.size() - 10), () -> w.count(3));
    }

    private static void replay() {
        Game w = busy();
        Check.refused("isReplayed while not played", w, Check.STATE, w::isReplayed);
        w.begin(0);
        Check.due("replayed at first", true, w::isReplayed);
        Check.says(w, "light lamp. look. put coin in box. up", "done 3, 9 -1 3");
        List<Object> before = Check.picture(w);
        Check.due("replayed", true, w::isReplayed);
        Check.dueValue("all stays", before, Check.picture(w));
        w.undo();
        Check.due("replayed", true, w::isReplayed);
        Check.says(w, "go north. drop all. take lamp. light lamp. look", "done 5");
        Check.due("replayed", true, w::isReplayed);
        w.save();
        waits(w, 2);
        w.restore();
        Check.due("replayed", true, w::isReplayed);
        Check.due("turns", 5, () -> w.count(7));
        w.stop();
        Check.refused("isReplayed while not played", w, Check.STATE, w::isReplayed);
        w.begin(1);
        Check.due("replayed", true, w::isReplayed);
        Check.says(w, "south", "done 1");
        Check.due("replayed", true, w::isReplayed);
    }

    private static void replayLong() {
        Game w = busy();
        w.begin(0);
        String[] texts = {"n. ", "wait. wait. wait. wait. wait. wait. wait. wait. wait. wait. wait. wait. wait",
            "north. south. north. south. take all. drop all. wait. wait. light lamp. wait"};
        for (int i = 0; i < 30; i++) {
            Check.say(w, texts[i % 3]);
        }
        Check.due("replayed", true, w::isReplayed);
        Check.dueValue("many turns", true, w.count(7) > 150);
    }

    private static void outerLater() {
        Game w = rooms(3);
        int box = box(w, 9, true, 0);
        int coin = coin(w, 1, 1);
        int held = w.addThing(0, 5, 0, 1);
        int gone = w.addThing(0, 6, 0, 1);
        w.put(held, 3, 0);
        w.connect(0, NORTH, 1, -1);
        w.connect(1, NORTH, 2, -1);
        w.connect(2, WEST, 0, -1);
        w.addDaemon(1, box, 1, false);
        w.addDaemon(2, box, 4, false);
        for (int thing : new int[] {-1, 4, Integer.MIN_VALUE, Integer.MAX_VALUE}) {
            Check.refused("outerLater of " + thing, w, Check.INDEX, () -> w.outerLater(thing, 31));
        }
        for (int turns : new int[] {-1, 31, Integer.MIN_VALUE, Integer.MAX_VALUE}) {
            Check.refused("outerLater after " + turns, w, Check.ARGUMENT, () -> w.outerLater(0, turns));
        }
        Check.refused("outerLater while not played", w, Check.STATE, () -> w.outerLater(0, 0));
        w.begin(0);
        Check.says(w, "up.", "fault 3");
        List<Object> before = Check.picture(w);
        int[] boxes = new int[31];
        int[] coins = new int[31];
        for (int turns = 0; turns <= 30; turns++) {
            boxes[turns] = w.outerLater(box, turns);
            coins[turns] = w.outerLater(coin, turns);
            final int n = turns;
            Check.due("carried", -1, () -> w.outerLater(held, n));
            Check.due("nowhere", -2, () -> w.outerLater(gone, n));
        }
        Check.dueValue("all stays", before, Check.picture(w));
        Check.dueValue("moved on", 0, boxes[3]);
        for (int turns = 0; turns <= 30; turns++) {
            final int n = turns;
            Check.due("the box after " + n, boxes[n], () -> w.outer(box));
            Check.due("the coin after " + n, coins[n], () -> w.outer(coin));
            waits(w, 1);
        }
        Check.due("the coin was put in", box, () -> w.thing(coin, 10));
    }
}
