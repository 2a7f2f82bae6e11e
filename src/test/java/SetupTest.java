/** Promises 1 to 11: a new object, and how a world is made. */
public final class SetupTest {
    private static final int MIN = Integer.MIN_VALUE;
    private static final int MAX = Integer.MAX_VALUE;

    public static void main(String[] args) {
        newObject();
        addRoom();
        connect();
        addThing();
        setCapacity();
        setFlag();
        setKey();
        setFuel();
        setWorth();
        put();
        putIntoOthers();
        putLoad();
        addDaemon();
        Check.end();
    }

    /** One thing of each kind, with its kind for a number: 0 object, 1 container, 2 supporter, 3 lamp, 4 door. */
    private static Game oneOfEach() {
        Game w = new Game();
        w.addRoom(true);
        for (int kind = 0; kind < 5; kind++) {
            w.addThing(kind, kind, 0, kind + 1);
        }
        return w;
    }

    private static Game played() {
        Game w = oneOfEach();
        w.begin(0);
        return w;
    }

    private static void newObject() {
        Game w = new Game();
        int[] counts = {0, 0, 0, -1, -1, 0, 0, 0, 0, 0};
        for (int what = 0; what < counts.length; what++) {
            final int n = what;
            Check.due("new: count " + what, counts[what], () -> w.count(n));
        }
        Check.due("new: faultPosition", -1, w::faultPosition);
        Check.due("new: refusal 0", 0, () -> w.refusal(0));
        Check.due("new: refusal 1", -1, () -> w.refusal(1));
        Check.due("new: refusal 2", -1, () -> w.refusal(2));
        Check.due("new: command", Check.STATE, w::command);
        Check.due("new: undo", Check.STATE, w::undo);
        Check.due("new: isReplayed", Check.STATE, w::isReplayed);
        Check.due("new: restore", Check.STATE, w::restore);
        Check.due("new: litShare", Check.ARITHMETIC, w::litShare);
        Check.due("new: meanSize", Check.ARITHMETIC, w::meanSize);
        Check.due("new: begin", Check.INDEX, () -> w.begin(0));
    }

    private static void addRoom() {
        Game w = new Game();
        for (int room = 0; room < 8; room++) {
            final boolean isLight = room % 2 == 0;
            Check.due("addRoom", room, () -> w.addRoom(isLight));
        }
        Check.refused("addRoom, the ninth", w, Check.STATE, () -> w.addRoom(true));
        for (int room = 0; room < 8; room++) {
            final int r = room;
            Check.due("isLit", room % 2 == 0, () -> w.isLit(r));
            for (int way = 0; way < 6; way++) {
                final int d = way;
                Check.due("exit of a new room", Check.MISSING, () -> w.exit(r, d));
            }
        }
        Game p = played();
        Check.refused("addRoom while played", p, Check.STATE, () -> p.addRoom(true));
    }

    private static void connect() {
        Game w = oneOfEach();
        w.addRoom(false);
        Check.due("connect", -1, () -> w.connect(0, 5, 1, -1));
        Check.due("connect anew", 1, () -> w.connect(0, 5, 0, 4));
        Check.due("exit", 0, () -> w.exit(0, 5));
        Check.due("door", 4, () -> w.door(0, 5));
        Check.due("only in this direction", Check.MISSING, () -> w.exit(0, 4));
        Check.due("only from this room", Check.MISSING, () -> w.exit(1, 5));
        Check.due("connect without its door", 0, () -> w.connect(0, 5, 1, -1));
        Check.due("no door", -1, () -> w.door(0, 5));
        Check.due("connect to none", 1, () -> w.connect(0, 5, -1, -1));
        Check.due("removed", Check.MISSING, () -> w.exit(0, 5));
        Check.due("removed again", -1, () -> w.connect(0, 5, -1, -1));
        w.connect(0, 0, 1, 4);
        for (int room : new int[] {-1, 2, MIN, MAX}) {
            Check.refused("connect from " + room, w, Check.INDEX, () -> w.connect(room, 9, 0, -1));
        }
        for (int to : new int[] {-2, 2, MIN, MAX}) {
            Check.refused("connect to " + to, w, Check.INDEX, () -> w.connect(0, 9, to, -1));
        }
        for (int door : new int[] {-2, 5, MIN, MAX}) {
            Check.refused("connect through " + door, w, Check.INDEX, () -> w.connect(0, 9, 0, door));
        }
        for (int way : new int[] {-1, 6, MIN, MAX}) {
            Check.refused("connect towards " + way, w, Check.ARGUMENT, () -> w.connect(0, way, 1, -1));
        }
        for (int thing = 0; thing < 4; thing++) {
            final int t = thing;
            Check.refused("connect through no door", w, Check.ARGUMENT, () -> w.connect(0, 0, 1, t));
        }
        Check.refused("connect a door to none", w, Check.ARGUMENT, () -> w.connect(0, 0, -1, 4));
        w.begin(0);
        Check.refused("connect while played", w, Check.STATE, () -> w.connect(0, 1, 1, -1));
        Check.refused("connect while played, no direction", w, Check.ARGUMENT, () -> w.connect(0, 6, 1, -1));
        Check.refused("connect while played, no room", w, Check.INDEX, () -> w.connect(2, 6, 1, -1));
    }

    private static void addThing() {
        Game w = new Game();
        int[][] wrong = {{-1, 0, 0, 1}, {5, 0, 0, 1}, {MIN, 0, 0, 1}, {0, -1, 0, 1}, {0, 8, 0, 1}, {0, MAX, 0, 1},
            {0, 0, -1, 1}, {0, 0, 4, 1}, {0, 0, MIN, 1}, {0, 0, 0, 0}, {0, 0, 0, 10}, {0, 0, 0, -1}, {0, 0, 0, MAX}};
        for (int[] a : wrong) {
            Check.refused("addThing out of range", w, Check.ARGUMENT, () -> w.addThing(a[0], a[1], a[2], a[3]));
        }
        for (int thing = 0; thing < 16; thing++) {
            final int t = thing;
            Check.due("addThing", t, () -> w.addThing(t % 5, t % 8, t % 4, t % 9 + 1));
            int[] due = {t % 5, t % 8, t % 4, t % 9 + 1, 0, 0, 0, -1, 0, 4, -1, 0};
            for (int what = 0; what < 12; what++) {
                final int n = what;
                Check.due("thing " + t + ", " + n, due[n], () -> w.thing(t, n));
            }
        }
        Check.refused("addThing, the seventeenth", w, Check.STATE, () -> w.addThing(0, 0, 0, 1));
        Check.refused("addThing, one too many and wrong", w, Check.ARGUMENT, () -> w.addThing(0, 0, 0, 0));
        Game p = played();
        Check.refused("addThing while played", p, Check.STATE, () -> p.addThing(0, 0, 0, 1));
        Check.refused("addThing while played, wrong", p, Check.ARGUMENT, () -> p.addThing(5, 0, 0, 1));
    }

    private static void setCapacity() {
        Game w = oneOfEach();
        Check.due("setCapacity", 0, () -> w.setCapacity(1, 30));
        Check.due("setCapacity", 30, () -> w.setCapacity(1, 1));
        Check.due("setCapacity", 0, () -> w.setCapacity(2, 10));
        w.put(0, 1, 1);
        w.put(3, 2, 2);
        w.put(1, 2, 2);
        Check.due("capacity", 1, () -> w.thing(1, 4));
        Check.refused("less than what is in it", w, Check.STATE, () -> w.setCapacity(1, 0));
        Check.due("what is in it", 1, () -> w.setCapacity(1, 1));
        Check.refused("less than what is directly on it", w, Check.STATE, () -> w.setCapacity(2, 5));
        Check.due("what is directly on it", 10, () -> w.setCapacity(2, 6));
        for (int thing : new int[] {-1, 5, MIN, MAX}) {
            Check.refused("setCapacity of " + thing, w, Check.INDEX, () -> w.setCapacity(thing, 31));
        }
        for (int capacity : new int[] {-1, 31, MIN, MAX}) {
            Check.refused("setCapacity " + capacity, w, Check.ARGUMENT, () -> w.setCapacity(0, capacity));
        }
        for (int thing : new int[] {0, 3, 4}) {
            Check.refused("setCapacity of a wrong kind", w, Check.KIND, () -> w.setCapacity(thing, 0));
        }
        w.begin(0);
        Check.refused("setCapacity while played", w, Check.STATE, () -> w.setCapacity(1, 30));
        Check.refused("setCapacity while played", w, Check.KIND, () -> w.setCapacity(0, 30));
    }

    private static void setFlag() {
        boolean[][] can = {{true, false, false, false, false}, {true, true, true, true, false},
            {true, false, false, false, false}, {false, false, false, false, true}, {false, true, true, false, false}};
        for (int thing = 0; thing < 5; thing++) {
            for (int flag = 0; flag < 5; flag++) {
                Game w = oneOfEach();
                w.setFuel(3, 1);
                final int t = thing;
                final int f = flag;
                String call = "setFlag " + t + " " + f;
                if (can[t][f]) {
                    Check.due(call, false, () -> w.setFlag(t, f, true));
                    Check.due(call, true, () -> w.setFlag(t, f, true));
                    Check.due("flags", 1 << f, () -> w.thing(t, 8));
                    Check.due(call, true, () -> w.setFlag(t, f, false));
                    Check.due(call, false, () -> w.setFlag(t, f, false));
                    Check.due("flags", 0, () -> w.thing(t, 8));
                } else {
                    Check.refused(call, w, Check.KIND, () -> w.setFlag(t, f, true));
                    Check.refused(call, w, Check.KIND, () -> w.setFlag(t, f, false));
                }
            }
        }
        Game w = oneOfEach();
        for (int thing : new int[] {1, 4}) {
            w.setFlag(thing, 1, true);
            Check.refused("open and locked", w, Check.STATE, () -> w.setFlag(thing, 2, true));
            Check.due("not locked", false, () -> w.setFlag(thing, 2, false));
            w.setFlag(thing, 1, false);
            w.setFlag(thing, 2, true);
            Check.refused("locked and open", w, Check.STATE, () -> w.setFlag(thing, 1, true));
            Check.due("not open", false, () -> w.setFlag(thing, 1, false));
            Check.due("still locked", 4, () -> w.thing(thing, 8));
        }
        w.setFlag(1, 0, true);
        w.setFlag(1, 3, true);
        Check.due("several flags", 13, () -> w.thing(1, 8));
        Check.refused("lit without fuel", w, Check.STATE, () -> w.setFlag(3, 4, true));
        Check.due("quenched without fuel", false, () -> w.setFlag(3, 4, false));
        for (int thing : new int[] {-1, 5, MIN, MAX}) {
            Check.refused("setFlag of " + thing, w, Check.INDEX, () -> w.setFlag(thing, 5, true));
        }
        for (int flag : new int[] {-1, 5, MIN, MAX}) {
            Check.refused("setFlag " + flag, w, Check.ARGUMENT, () -> w.setFlag(0, flag, true));
        }
        w.begin(0);
        Check.refused("setFlag while played", w, Check.STATE, () -> w.setFlag(0, 0, true));
        Check.refused("setFlag while played", w, Check.KIND, () -> w.setFlag(0, 1, true));
    }

    private static void setKey() {
        Game w = oneOfEach();
        Check.due("setKey", -1, () -> w.setKey(1, 0));
        Check.due("setKey to itself", 0, () -> w.setKey(1, 1));
        Check.due("setKey to a door", 1, () -> w.setKey(1, 4));
        Check.due("setKey to none", 4, () -> w.setKey(1, -1));
        Check.due("setKey of a door", -1, () -> w.setKey(4, 3));
        Check.due("key", 3, () -> w.thing(4, 7));
        Check.due("no key", -1, () -> w.thing(1, 7));
        for (int thing : new int[] {-1, 5, MIN, MAX}) {
            Check.refused("setKey of " + thing, w, Check.INDEX, () -> w.setKey(thing, 0));
        }
        for (int key : new int[] {-2, 5, MIN, MAX}) {
            Check.refused("setKey to " + key, w, Check.INDEX, () -> w.setKey(0, key));
        }
        for (int thing : new int[] {0, 2, 3}) {
            Check.refused("setKey of a wrong kind", w, Check.KIND, () -> w.setKey(thing, 0));
        }
        w.begin(0);
        Check.refused("setKey while played", w, Check.STATE, () -> w.setKey(1, 0));
        Check.refused("setKey while played", w, Check.KIND, () -> w.setKey(0, 0));
    }

    private static void setFuel() {
        Game w = oneOfEach();
        Check.due("setFuel", 0, () -> w.setFuel(3, 99));
        Check.due("setFuel", 99, () -> w.setFuel(3, 0));
        Check.due("setFuel", 0, () -> w.setFuel(3, 7));
        w.setFlag(3, 4, true);
        Check.refused("setFuel of a lit lamp", w, Check.STATE, () -> w.setFuel(3, 0));
        Check.due("setFuel of a lit lamp", 7, () -> w.setFuel(3, 1));
        Check.due("fuel", 1, () -> w.thing(3, 6));
        for (int thing : new int[] {-1, 5, MIN, MAX}) {
            Check.refused("setFuel of " + thing, w, Check.INDEX, () -> w.setFuel(thing, 100));
        }
        for (int fuel : new int[] {-1, 100, MIN, MAX}) {
            Check.refused("setFuel " + fuel, w, Check.ARGUMENT, () -> w.setFuel(0, fuel));
        }
        for (int thing : new int[] {0, 1, 2, 4}) {
            Check.refused("setFuel of a wrong kind", w, Check.KIND, () -> w.setFuel(thing, 0));
        }
        w.begin(0);
        Check.refused("setFuel while played", w, Check.STATE, () -> w.setFuel(3, 5));
        Check.refused("setFuel while played", w, Check.KIND, () -> w.setFuel(0, 5));
    }

    private static void setWorth() {
        Game w = oneOfEach();
        for (int thing = 0; thing < 5; thing++) {
            final int t = thing;
            Check.due("setWorth", 0, () -> w.setWorth(t, 9));
            Check.due("setWorth", 9, () -> w.setWorth(t, t));
            Check.due("worth", t, () -> w.thing(t, 5));
        }
        for (int thing : new int[] {-1, 5, MIN, MAX}) {
            Check.refused("setWorth of " + thing, w, Check.INDEX, () -> w.setWorth(thing, 10));
        }
        for (int worth : new int[] {-1, 10, MIN, MAX}) {
            Check.refused("setWorth " + worth, w, Check.ARGUMENT, () -> w.setWorth(0, worth));
        }
        w.begin(0);
        Check.refused("setWorth while played", w, Check.STATE, () -> w.setWorth(0, 1));
        Check.refused("setWorth while played", w, Check.ARGUMENT, () -> w.setWorth(0, 10));
    }

    private static void put() {
        Game w = oneOfEach();
        w.setCapacity(1, 30);
        w.setCapacity(2, 30);
        Check.due("put into a room", 4, () -> w.put(0, 0, 0));
        Check.due("put into a container", 0, () -> w.put(0, 1, 1));
        Check.due("put onto a supporter", 1, () -> w.put(0, 2, 2));
        Check.due("its target", 2, () -> w.thing(0, 10));
        Check.due("put to the player", 2, () -> w.put(0, 3, MAX));
        Check.due("no target", -1, () -> w.thing(0, 10));
        Check.due("put nowhere", 3, () -> w.put(0, 4, MIN));
        Check.due("nowhere", 4, () -> w.put(0, 4, 0));
        Check.due("no target", -1, () -> w.thing(0, 10));
        for (int thing : new int[] {-1, 5, MIN, MAX}) {
            Check.refused("put " + thing, w, Check.INDEX, () -> w.put(thing, 5, 0));
        }
        for (int place : new int[] {-1, 5, MIN, MAX}) {
            Check.refused("put at " + place, w, Check.ARGUMENT, () -> w.put(4, place, 0));
        }
        for (int target : new int[] {-1, 1, MIN, MAX}) {
            Check.refused("put into room " + target, w, Check.ARGUMENT, () -> w.put(4, 0, target));
        }
        for (int target : new int[] {-1, 5, MIN, MAX}) {
            Check.refused("put into " + target, w, Check.ARGUMENT, () -> w.put(4, 1, target));
            Check.refused("put onto " + target, w, Check.ARGUMENT, () -> w.put(4, 2, target));
        }
        for (int place = 0; place < 5; place++) {
            final int p = place;
            Check.refused("put a door", w, Check.KIND, () -> w.put(4, p, p == 1 ? 1 : p == 2 ? 2 : 0));
        }
        for (int target : new int[] {0, 2, 3, 4}) {
            Check.refused("put into no container", w, Check.KIND, () -> w.put(0, 1, target));
        }
        for (int target : new int[] {0, 1, 3, 4}) {
            Check.refused("put onto no supporter", w, Check.KIND, () -> w.put(0, 2, target));
        }
        w.begin(0);
        Check.refused("put while played", w, Check.STATE, () -> w.put(0, 0, 0));
        Check.refused("put while played", w, Check.KIND, () -> w.put(4, 0, 0));
    }

    private static void putIntoOthers() {
        Game w = oneOfEach();
        w.setCapacity(1, 5);
        w.setCapacity(2, 6);
        Check.refused("put into itself", w, Check.STATE, () -> w.put(1, 1, 1));
        Check.refused("put onto itself", w, Check.STATE, () -> w.put(2, 2, 2));
        w.put(1, 2, 2);
        Check.refused("put onto what is in it", w, Check.STATE, () -> w.put(2, 1, 1));
        w.put(1, 4, 0);
        Check.due("put into a closed container", 4, () -> w.put(3, 1, 1));
        Check.refused("no room for more", w, Check.STATE, () -> w.put(2, 1, 1));
        Check.due("room for the last one", 4, () -> w.put(0, 1, 1));
        Check.due("put where it is", 1, () -> w.put(3, 1, 1));
        Check.due("what is in it", 5, () -> w.thing(1, 11));
        Check.due("only its own size counts", 4, () -> w.put(1, 2, 2));
        Check.due("what is on it", 2, () -> w.thing(2, 11));
        Check.due("put with what is in and on it", 4, () -> w.put(2, 0, 0));
        Check.due("through others", 0, () -> w.outer(3));
        Check.refused("put onto what is in what is on it", w, Check.STATE, () -> w.put(2, 1, 1));
    }

    private static void putLoad() {
        Game w = new Game();
        w.addRoom(true);
        int bag = w.addThing(1, 0, 0, 3);
        int nine = w.addThing(0, 1, 0, 9);
        int eight = w.addThing(0, 2, 0, 8);
        int one = w.addThing(0, 3, 0, 1);
        w.setCapacity(bag, 30);
        w.put(nine, 1, bag);
        w.put(bag, 3, 0);
        Check.due("load", 12, () -> w.count(9));
        Check.due("load of 20", 4, () -> w.put(eight, 3, 0));
        Check.due("load", 20, () -> w.count(9));
        Check.refused("load of 21", w, Check.STATE, () -> w.put(one, 3, 0));
        Check.refused("load of 21 through others", w, Check.STATE, () -> w.put(one, 1, bag));
        Check.due("counted without its present place", 3, () -> w.put(eight, 1, bag));
        Check.due("and back", 1, () -> w.put(nine, 3, 0));
        Check.due("where it is", 3, () -> w.put(nine, 3, 0));
        Check.due("load", 20, () -> w.count(9));
        w.put(bag, 0, 0);
        w.put(one, 1, bag);
        Check.due("load", 9, () -> w.count(9));
        Check.refused("load with what is in it", w, Check.STATE, () -> w.put(bag, 3, 0));
        w.put(one, 4, 0);
        Check.due("load with what is in it", 0, () -> w.put(bag, 3, 0));
    }

    private static void addDaemon() {
        boolean[][] can = {{false, true, false, false, true}, {true, true, true, true, false},
            {false, true, false, false, false}, {false, false, false, true, false}};
        for (int kind = 0; kind < 4; kind++) {
            for (int thing = 0; thing < 5; thing++) {
                Game w = oneOfEach();
                final int k = kind;
                final int t = thing;
                if (!can[k][t]) {
                    Check.refused("addDaemon " + k + " " + t, w, Check.KIND, () -> w.addDaemon(k, t, 1, true));
                    continue;
                }
                Check.due("addDaemon " + k + " " + t, 0, () -> w.addDaemon(k, t, 20 - k, t % 2 == 0));
                int[] due = {k, t, 20 - k, -1, 0, t % 2 == 0 ? 1 : 0};
                for (int what = 0; what < 6; what++) {
                    final int n = what;
                    Check.due("daemon " + n, due[n], () -> w.daemon(0, n));
                }
            }
        }
        Game w = oneOfEach();
        for (int thing : new int[] {-1, 5, MIN, MAX}) {
            Check.refused("addDaemon for " + thing, w, Check.INDEX, () -> w.addDaemon(4, thing, 0, true));
        }
        for (int kind : new int[] {-1, 4, MIN, MAX}) {
            Check.refused("addDaemon of kind " + kind, w, Check.ARGUMENT, () -> w.addDaemon(kind, 0, 1, true));
        }
        for (int period : new int[] {0, 21, -1, MIN, MAX}) {
            Check.refused("addDaemon with " + period, w, Check.ARGUMENT, () -> w.addDaemon(0, 0, period, true));
        }
        for (int daemon = 0; daemon < 6; daemon++) {
            final int d = daemon;
            Check.due("addDaemon", d, () -> w.addDaemon(1, 0, 1, false));
        }
        Check.refused("addDaemon, the seventh", w, Check.STATE, () -> w.addDaemon(1, 0, 1, false));
        Check.refused("addDaemon, the seventh, wrong", w, Check.KIND, () -> w.addDaemon(0, 0, 1, false));
        Game p = played();
        Check.refused("addDaemon while played", p, Check.STATE, () -> p.addDaemon(1, 0, 1, false));
    }
}
