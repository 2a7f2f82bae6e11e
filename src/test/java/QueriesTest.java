/** Promises 22 to 33, 37 and 38: what can be asked of a world. */
public final class QueriesTest {
    private static final int MIN = Integer.MIN_VALUE;
    private static final int MAX = Integer.MAX_VALUE;
    private static final int[] WRONG = {MIN, MAX, -1, 100};

    public static void main(String[] args) {
        thing();
        exitAndDoor();
        isLit();
        isLitThroughOthers();
        isVisible();
        isVisibleInTheDark();
        isReachable();
        content();
        outer();
        distance();
        worth();
        litShare();
        meanSize();
        letter();
        count();
        Check.end();
    }

    private static Game rooms(boolean... light) {
        Game w = new Game();
        for (boolean isLight : light) {
            w.addRoom(isLight);
        }
        return w;
    }

    /** Adds a thing that is called coin, box, bell, lamp or door, by its kind. */
    private static int add(Game w, int kind, int size, int place, int target) {
        int thing = w.addThing(kind, new int[] {4, 0, 7, 1, 3}[kind], 0, size);
        if (kind == 1 || kind == 2) {
            w.setCapacity(thing, 30);
        }
        if (kind != 4) {
            w.put(thing, place, target);
        }
        return thing;
    }

    private static int litLamp(Game w, int place, int target) {
        int lamp = add(w, 3, 1, place, target);
        w.setFuel(lamp, 9);
        w.setFlag(lamp, 4, true);
        return lamp;
    }

    private static void thing() {
        Game w = rooms(true, true);
        Check.refused("no thing", w, Check.INDEX, () -> w.thing(0, 12));
        int box = w.addThing(1, 6, 3, 9);
        w.setCapacity(box, 17);
        w.setWorth(box, 8);
        w.setKey(box, box);
        w.setFlag(box, 0, true);
        w.setFlag(box, 2, true);
        w.put(box, 0, 1);
        int lamp = w.addThing(3, 1, 0, 4);
        w.setFuel(lamp, 44);
        w.put(lamp, 1, box);
        add(w, 0, 5, 1, box);
        int[][] due = {{1, 6, 3, 9, 17, 8, 0, 0, 5, 0, 1, 9}, {3, 1, 0, 4, 0, 0, 44, -1, 0, 1, 0, 0}};
        for (int what = 0; what < 12; what++) {
            final int n = what;
            Check.due("thing 0 " + n, due[0][n], () -> w.thing(box, n));
            Check.due("thing 1 " + n, due[1][n], () -> w.thing(lamp, n));
        }
        for (int wrong : WRONG) {
            Check.refused("thing " + wrong, w, Check.INDEX, () -> w.thing(wrong, 12));
            Check.refused("thing 0 " + wrong, w, Check.ARGUMENT, () -> w.thing(0, wrong));
        }
        Check.refused("thing 3", w, Check.INDEX, () -> w.thing(3, 0));
        Check.refused("thing 0 12", w, Check.ARGUMENT, () -> w.thing(0, 12));
    }

    private static void exitAndDoor() {
        Game w = rooms(true, true);
        int door = add(w, 4, 1, 4, 0);
        w.connect(0, 0, 1, -1);
        w.connect(0, 5, 0, door);
        Check.due("exit", 1, () -> w.exit(0, 0));
        Check.due("exit", 0, () -> w.exit(0, 5));
        Check.due("door", -1, () -> w.door(0, 0));
        Check.due("door", door, () -> w.door(0, 5));
        for (int way = 0; way < 6; way++) {
            final int d = way;
            Check.refused("no exit", w, Check.MISSING, () -> w.exit(1, d));
            Check.refused("no exit", w, Check.MISSING, () -> w.door(1, d));
        }
        for (int wrong : WRONG) {
            Check.refused("exit of " + wrong, w, Check.INDEX, () -> w.exit(wrong, 6));
            Check.refused("door of " + wrong, w, Check.INDEX, () -> w.door(wrong, 6));
            Check.refused("exit towards " + wrong, w, Check.ARGUMENT, () -> w.exit(1, wrong));
            Check.refused("door towards " + wrong, w, Check.ARGUMENT, () -> w.door(1, wrong));
        }
        Check.refused("exit of 2", w, Check.INDEX, () -> w.exit(2, 0));
        Check.refused("exit towards 6", w, Check.ARGUMENT, () -> w.exit(0, 6));
        Check.refused("door of 2", w, Check.INDEX, () -> w.door(2, 0));
        Check.refused("door towards 6", w, Check.ARGUMENT, () -> w.door(0, 6));
        w.begin(0);
        Check.due("exit while played", 0, () -> w.exit(0, 5));
        Check.due("door while played", door, () -> w.door(0, 5));
    }

    private static void isLit() {
        Game w = rooms(true, false, false);
        w.connect(0, 0, 1, -1);
        int lamp = litLamp(w, 3, 0);
        Check.due("light", true, () -> w.isLit(0));
        Check.due("dark", false, () -> w.isLit(1));
        for (int wrong : new int[] {MIN, MAX, -1, 3}) {
            Check.refused("isLit " + wrong, w, Check.INDEX, () -> w.isLit(wrong));
        }
        w.begin(0);
        Check.due("dark", false, () -> w.isLit(1));
        Check.says(w, "north", "done 1");
        Check.due("lit by what is carried", true, () -> w.isLit(1));
        Check.due("dark", false, () -> w.isLit(2));
        Check.says(w, "quench lamp", "done 1");
        Check.due("dark", false, () -> w.isLit(1));
        Check.says(w, "light lamp. drop lamp", "done 2");
        Check.due("lit by what is there", true, () -> w.isLit(1));
        Check.due("where it is", 1, () -> w.outer(lamp));
        w.undo();
        w.stop();
        Check.due("carried, not played", false, () -> w.isLit(1));
        w.put(lamp, 4, 0);
        Check.due("nowhere", false, () -> w.isLit(1));
        w.put(lamp, 0, 2);
        Check.due("there, not played", true, () -> w.isLit(2));
    }

    private static void isLitThroughOthers() {
        Game w = rooms(false, false);
        int inner = w.addThing(2, 0, 0, 2);
        int lamp = litLamp(w, 4, 0);
        int middle = add(w, 1, 3, 4, 0);
        int outside = add(w, 1, 4, 0, 1);
        w.setCapacity(inner, 9);
        w.put(lamp, 2, inner);
        w.put(inner, 1, middle);
        w.put(middle, 1, outside);
        boolean[][] due = {{false, false, false}, {false, true, true}, {false, true, true}};
        int[] flags = {-1, 1, 3};
        for (int a = 0; a < 3; a++) {
            for (int b = 0; b < 3; b++) {
                set(w, middle, flags[a]);
                set(w, outside, flags[b]);
                final boolean isLit = due[a][b];
                Check.due("lit through " + flags[a] + " and " + flags[b], isLit, () -> w.isLit(1));
                Check.due("only there", false, () -> w.isLit(0));
            }
        }
        w.put(outside, 3, 0);
        w.begin(0);
        Check.due("lit by what is in what is carried", true, () -> w.isLit(0));
        Check.due("no more there", false, () -> w.isLit(1));
    }

    private static void set(Game w, int container, int flag) {
        w.setFlag(container, 1, flag == 1);
        w.setFlag(container, 3, flag == 3);
    }

    private static void dueSight(Game w, int thing, boolean isVisible, boolean isReachable) {
        Check.due("isVisible " + thing, isVisible, () -> w.isVisible(thing));
        Check.due("isReachable " + thing, isReachable, () -> w.isReachable(thing));
    }

    private static void isVisible() {
        Game w = rooms(true, true);
        int closed = add(w, 1, 1, 0, 0);
        int inClosed = add(w, 0, 1, 1, closed);
        int tray = add(w, 2, 1, 3, 0);
        int onTray = add(w, 0, 1, 2, tray);
        int far = add(w, 0, 1, 0, 1);
        int gone = add(w, 2, 1, 4, 0);
        int onGone = add(w, 0, 1, 2, gone);
        int door = add(w, 4, 1, 4, 0);
        int back = add(w, 4, 1, 4, 0);
        w.connect(0, 3, 1, door);
        w.connect(1, 1, 0, back);
        for (int wrong : WRONG) {
            Check.refused("isVisible " + wrong, w, Check.INDEX, () -> w.isVisible(wrong));
            Check.refused("isReachable " + wrong, w, Check.INDEX, () -> w.isReachable(wrong));
        }
        Check.refused("isVisible while not played", w, Check.STATE, () -> w.isVisible(0));
        Check.refused("isReachable while not played", w, Check.STATE, () -> w.isReachable(0));
        w.begin(0);
        Check.refused("isVisible, none", w, Check.INDEX, () -> w.isVisible(9));
        Check.refused("isReachable, none", w, Check.INDEX, () -> w.isReachable(9));
        dueSight(w, closed, true, true);
        dueSight(w, inClosed, false, false);
        dueSight(w, tray, true, true);
        dueSight(w, onTray, true, true);
        dueSight(w, far, false, false);
        dueSight(w, gone, false, false);
        dueSight(w, onGone, false, false);
        dueSight(w, door, true, true);
        dueSight(w, back, false, false);
        Check.says(w, "open box. open door. west", "done 3");
        dueSight(w, far, true, true);
        dueSight(w, tray, true, true);
        dueSight(w, closed, false, false);
        dueSight(w, door, false, false);
        dueSight(w, back, true, true);
    }

    private static void isVisibleInTheDark() {
        Game w = rooms(false);
        int box = add(w, 1, 1, 3, 0);
        int inBox = add(w, 2, 1, 1, box);
        int onThat = add(w, 0, 1, 2, inBox);
        int glass = w.addThing(1, 6, 0, 1);
        w.setCapacity(glass, 1);
        w.put(glass, 3, 0);
        int inGlass = add(w, 0, 1, 1, glass);
        int there = add(w, 2, 1, 0, 0);
        int onThere = add(w, 0, 1, 2, there);
        int door = add(w, 4, 1, 4, 0);
        w.connect(0, 0, 0, door);
        w.setFlag(glass, 3, true);
        w.begin(0);
        dueSight(w, box, true, true);
        dueSight(w, inBox, false, false);
        dueSight(w, onThat, false, false);
        dueSight(w, inGlass, true, false);
        dueSight(w, there, false, false);
        dueSight(w, onThere, false, false);
        dueSight(w, door, false, false);
        Check.says(w, "open box", "done 1");
        dueSight(w, inBox, true, true);
        dueSight(w, onThat, true, true);
        Check.says(w, "take all", "done 0, 5 -1 0");
    }

    private static void isReachable() {
        Game w = rooms(true);
        int a = add(w, 1, 1, 0, 0);
        int tray = add(w, 2, 1, 1, a);
        int b = add(w, 1, 1, 2, tray);
        int c = add(w, 0, 1, 1, b);
        for (int outer = 0; outer < 3; outer++) {
            for (int inner = 0; inner < 3; inner++) {
                int[] flags = {-1, 1, 3};
                set(w, a, flags[outer]);
                set(w, b, flags[inner]);
                w.begin(0);
                dueSight(w, a, true, true);
                dueSight(w, tray, outer > 0, outer == 1);
                dueSight(w, b, outer > 0, outer == 1);
                dueSight(w, c, outer > 0 && inner > 0, outer == 1 && inner == 1);
                w.stop();
            }
        }
    }

    private static void content() {
        Game w = rooms(true, true);
        int box = add(w, 1, 1, 0, 1);
        int tray = add(w, 2, 1, 0, 0);
        int first = add(w, 0, 1, 1, box);
        int door = add(w, 4, 1, 4, 0);
        int second = add(w, 0, 1, 3, 0);
        int third = add(w, 0, 1, 2, tray);
        int gone = add(w, 0, 1, 4, 0);
        w.put(second, 1, box);
        dueContent(w, 0, 0, tray);
        dueContent(w, 0, 1, box);
        dueContent(w, 1, box, first, second);
        dueContent(w, 1, tray);
        dueContent(w, 2, tray, third);
        dueContent(w, 2, box);
        dueContent(w, 1, first);
        dueContent(w, 3, MIN);
        dueContent(w, 4, MAX, door, gone);
        w.put(third, 3, 0);
        w.put(first, 3, 0);
        dueContent(w, 3, MAX, first, third);
        dueContent(w, 3, -1, first, third);
        dueContent(w, 1, box, second);
        for (int wrong : new int[] {MIN, MAX, -1, 5}) {
            Check.refused("content at " + wrong, w, Check.ARGUMENT, () -> w.content(wrong, 0, 0));
        }
        for (int wrong : new int[] {MIN, MAX, -1, 2}) {
            Check.refused("content of room " + wrong, w, Check.ARGUMENT, () -> w.content(0, wrong, 99));
        }
        for (int wrong : new int[] {MIN, MAX, -1, 7}) {
            Check.refused("content in " + wrong, w, Check.ARGUMENT, () -> w.content(1, wrong, 99));
            Check.refused("content on " + wrong, w, Check.ARGUMENT, () -> w.content(2, wrong, 99));
        }
    }

    private static void dueContent(Game w, int place, int target, int... things) {
        String call = "content " + place + " " + target;
        Check.due(call, things.length, () -> w.content(place, target, -1));
        for (int i = 0; i < things.length; i++) {
            final int index = i;
            Check.due(call, things[i], () -> w.content(place, target, index));
        }
        for (int index : new int[] {things.length, -2, MIN, MAX, 16, 32}) {
            Check.refused(call + " " + index, w, Check.INDEX, () -> w.content(place, target, index));
        }
    }

    private static void outer() {
        Game w = rooms(true, true);
        int box = add(w, 1, 1, 0, 1);
        int tray = add(w, 2, 1, 1, box);
        int coin = add(w, 0, 1, 2, tray);
        int door = add(w, 4, 1, 4, 0);
        Check.due("in a room", 1, () -> w.outer(box));
        Check.due("through others", 1, () -> w.outer(coin));
        Check.due("a door", -2, () -> w.outer(door));
        w.put(box, 3, 0);
        Check.due("carried", -1, () -> w.outer(box));
        Check.due("carried through others", -1, () -> w.outer(coin));
        w.put(tray, 4, 0);
        Check.due("nowhere", -2, () -> w.outer(tray));
        Check.due("nowhere through others", -2, () -> w.outer(coin));
        w.put(tray, 0, 0);
        Check.due("the first room", 0, () -> w.outer(coin));
        for (int wrong : new int[] {MIN, MAX, -1, 4}) {
            Check.refused("outer of " + wrong, w, Check.INDEX, () -> w.outer(wrong));
        }
    }

    private static void distance() {
        Game w = rooms(true, true, true, true, true, true, true, true);
        int door = add(w, 4, 1, 4, 0);
        for (int room = 0; room < 7; room++) {
            w.connect(room, room % 6, room + 1, -1);
        }
        Check.due("to itself", 0, () -> w.distance(7, 7));
        Check.due("the longest way", 7, () -> w.distance(0, 7));
        Check.due("a part of it", 3, () -> w.distance(2, 5));
        Check.refused("only in this direction", w, Check.MISSING, () -> w.distance(1, 0));
        w.connect(1, 3, 6, door);
        Check.due("a closed door", 7, () -> w.distance(0, 7));
        w.setFlag(door, 1, true);
        Check.due("an open door", 3, () -> w.distance(0, 7));
        w.connect(7, 0, 0, -1);
        Check.due("round", 3, () -> w.distance(6, 1));
        w.connect(0, 5, 0, -1);
        Check.due("to itself", 0, () -> w.distance(0, 0));
        for (int wrong : new int[] {MIN, MAX, -1, 8}) {
            Check.refused("distance from " + wrong, w, Check.INDEX, () -> w.distance(wrong, 0));
            Check.refused("distance to " + wrong, w, Check.INDEX, () -> w.distance(0, wrong));
        }
        w.begin(1);
        Check.says(w, "close door", "done 1");
        Check.due("closed while played", 5, () -> w.distance(1, 6));
    }

    private static void worth() {
        Game w = rooms(true, true);
        int box = add(w, 1, 1, 0, 1);
        int inBox = add(w, 0, 1, 1, box);
        int held = add(w, 2, 1, 3, 0);
        int onHeld = add(w, 0, 1, 2, held);
        int gone = add(w, 0, 1, 4, 0);
        int door = add(w, 4, 1, 4, 0);
        int[] worths = {1, 2, 3, 4, 9, 9};
        for (int thing = 0; thing < 6; thing++) {
            w.setWorth(thing, worths[thing]);
        }
        Check.due("nothing there", 0, () -> w.worth(0));
        Check.due("there", 3, () -> w.worth(1));
        Check.due("carried", 7, () -> w.worth(-1));
        w.put(gone, 0, 0);
        Check.due("there", 9, () -> w.worth(0));
        w.put(inBox, 2, held);
        Check.due("carried", 9, () -> w.worth(-1));
        Check.due("what is on it", 2, () -> w.thing(held, 11));
        Check.due("doors are nowhere", -2, () -> w.outer(door));
        Check.due("carried, too", -1, () -> w.outer(onHeld));
        for (int wrong : new int[] {MIN, MAX, -2, 2}) {
            Check.refused("worth of " + wrong, w, Check.INDEX, () -> w.worth(wrong));
        }
        Game none = new Game();
        Check.due("no rooms, nothing carried", 0, () -> none.worth(-1));
        Check.refused("no rooms", none, Check.INDEX, () -> none.worth(0));
    }

    private static void litShare() {
        Game w = new Game();
        Check.refused("litShare without rooms", w, Check.ARITHMETIC, w::litShare);
        w.addRoom(false);
        Check.due("none of one", 0.0f, w::litShare);
        w.addRoom(true);
        Check.due("one of two", 0.5f, w::litShare);
        w.addRoom(false);
        Check.due("one of three", 1f / 3f, w::litShare);
        litLamp(w, 0, 2);
        Check.due("two of three", 2f / 3f, w::litShare);
        for (int i = 0; i < 4; i++) {
            w.addRoom(true);
        }
        Check.due("six of seven", 6f / 7f, w::litShare);
        litLamp(w, 3, 0);
        Check.due("carried, not played", 6f / 7f, w::litShare);
        w.begin(0);
        Check.due("carried", 1f, w::litShare);
    }

    private static void meanSize() {
        Game w = rooms(true);
        Check.refused("nothing at all", w, Check.ARITHMETIC, w::meanSize);
        int box = add(w, 1, 5, 0, 0);
        int coin = add(w, 0, 1, 1, box);
        int bell = add(w, 0, 4, 0, 0);
        Check.refused("nothing carried", w, Check.ARITHMETIC, w::meanSize);
        w.put(bell, 3, 0);
        Check.due("one", 4.0, w::meanSize);
        w.put(box, 3, 0);
        Check.due("three, one through others", 10.0 / 3.0, w::meanSize);
        w.put(coin, 0, 0);
        Check.due("two", 4.5, w::meanSize);
        w.begin(0);
        Check.says(w, "drop box", "done 1");
        Check.due("one while played", 4.0, w::meanSize);
        Check.says(w, "drop all", "done 1");
        Check.refused("none while played", w, Check.ARITHMETIC, w::meanSize);
    }

    private static void letter() {
        Game w = new Game();
        String[] nouns = {"box", "lamp", "key", "door", "coin", "rope", "book", "bell"};
        for (int noun = 0; noun < 8; noun++) {
            final int n = noun;
            for (int i = 0; i < nouns[n].length(); i++) {
                final int index = i;
                Check.due("letter", nouns[n].charAt(i), () -> w.letter(n, index));
            }
            for (int wrong : new int[] {MIN, MAX, -1, nouns[n].length()}) {
                Check.refused("letter " + n + " " + wrong, w, Check.INDEX, () -> w.letter(n, wrong));
            }
        }
        for (int wrong : new int[] {MIN, MAX, -1, 8}) {
            Check.refused("letter of " + wrong, w, Check.ARGUMENT, () -> w.letter(wrong, -1));
        }
    }

    private static void count() {
        Game w = rooms(true, true, true);
        int box = add(w, 1, 2, 3, 0);
        add(w, 0, 7, 1, box);
        w.addDaemon(0, box, 1, false);
        w.connect(2, 4, 1, -1);
        w.setFlag(box, 1, true);
        Check.type(w, "loo");
        dueCounts(w, 3, 2, 1, -1, -1, 3, 0, 0, 0, 9);
        w.begin(2);
        dueCounts(w, 3, 2, 1, 0, 2, 3, 0, 0, 0, 9);
        Check.says(w, "k. up. wait", "done 3");
        dueCounts(w, 3, 2, 1, 2, 1, 0, 2, 2, 1, 9);
        w.undo();
        dueCounts(w, 3, 2, 1, 1, 1, 0, 1, 1, 1, 9);
        Check.says(w, "drop box", "done 1");
        dueCounts(w, 3, 2, 1, 2, 1, 0, 2, 2, 1, 0);
        w.stop();
        dueCounts(w, 3, 2, 1, -1, -1, 0, 0, 0, 0, 9);
        for (int wrong : new int[] {MIN, MAX, -1, 10}) {
            Check.refused("count " + wrong, w, Check.ARGUMENT, () -> w.count(wrong));
        }
    }

    private static void dueCounts(Game w, int... due) {
        for (int what = 0; what < 10; what++) {
            final int n = what;
            Check.due("count " + n, due[n], () -> w.count(n));
        }
    }
}
