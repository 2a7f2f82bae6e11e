/** Promises 15 and 19: what each command does, and the reasons for which it is refused, in their order. */
public final class VerbsTest {
    private static final int OBJECT = 0;
    private static final int CONTAINER = 1;
    private static final int SUPPORTER = 2;
    private static final int LAMP = 3;
    private static final int DOOR = 4;

    private static final int BOX = 0;
    private static final int LAMP_NOUN = 1;
    private static final int KEY = 2;
    private static final int DOOR_NOUN = 3;
    private static final int COIN = 4;
    private static final int ROPE = 5;
    private static final int BOOK = 6;
    private static final int BELL = 7;

    private static final int RED = 1;
    private static final int OLD = 2;
    private static final int BIG = 3;

    private static final int FIXED = 0;
    private static final int OPEN = 1;
    private static final int LOCKED = 2;
    private static final int TRANSPARENT = 3;

    public static void main(String[] args) {
        refusal();
        look();
        go();
        take();
        takeAll();
        drop();
        dropAll();
        put();
        putOrder();
        putLoad();
        openAndClose();
        lockAndUnlock();
        lightAndQuench();
        meaning();
        meaningForVerbs();
        firstReasons();
        oneAfterTheOther();
        Check.end();
    }

    private static Game room(boolean isLight) {
        Game w = new Game();
        w.addRoom(isLight);
        return w;
    }

    private static int add(Game w, int kind, int noun, int adjective, int size, int place, int target) {
        int thing = w.addThing(kind, noun, adjective, size);
        if (kind == CONTAINER || kind == SUPPORTER) {
            w.setCapacity(thing, 30);
        }
        if (kind != DOOR) {
            w.put(thing, place, target);
        }
        return thing;
    }

    private static void dueNumber(Game w, int thing, int what, int want) {
        Check.due("thing " + thing + ", " + what, want, () -> w.thing(thing, what));
    }

    private static void refusal() {
        Game w = room(true);
        w.begin(0);
        for (int what : new int[] {-1, 3, Integer.MIN_VALUE, Integer.MAX_VALUE}) {
            Check.refused("refusal " + what, w, Check.ARGUMENT, () -> w.refusal(what));
        }
        Check.says(w, "wait. look. up. wait", "done 2, 9 -1 2");
        Check.says(w, "up.", "fault 3");
        Check.due("a fault leaves it", 9, () -> w.refusal(0));
        Check.due("a fault leaves it", 2, () -> w.refusal(2));
        Check.type(w, "take box");
        Check.due("foresee", 0, w::foresee);
        Check.due("leaves it", 9, () -> w.refusal(0));
        Check.due("command", 0, w::command);
        Check.due("another one", 1, () -> w.refusal(0));
        Check.due("another one", 0, () -> w.refusal(2));
        w.undo();
        Check.due("undo leaves it", 1, () -> w.refusal(0));
        Check.says(w, "wait", "done 1");
        Check.due("none", 0, () -> w.refusal(0));
        Check.due("none", -1, () -> w.refusal(1));
        Check.due("none", -1, () -> w.refusal(2));
    }

    private static void look() {
        Game w = room(false);
        int lamp = add(w, LAMP, LAMP_NOUN, 0, 1, 3, 0);
        w.setFuel(lamp, 5);
        w.begin(0);
        Check.says(w, "look", "done 0, 12 -1 0");
        Check.says(w, "light lamp. look. look. look", "done 4");
        Check.due("look is no turn", 1, () -> w.count(3));
        dueNumber(w, lamp, 6, 4);
        Check.says(w, "wait. wait. wait. look. wait. look", "done 5, 12 -1 5");
        Check.due("the clock", 5, () -> w.count(3));
    }

    private static void go() {
        Game w = room(true);
        w.addRoom(false);
        int door = w.addThing(DOOR, DOOR_NOUN, 0, 1);
        int key = add(w, OBJECT, KEY, 0, 1, 3, 0);
        w.setKey(door, key);
        w.setFlag(door, LOCKED, true);
        w.connect(0, 0, 1, -1);
        w.connect(0, 5, 0, -1);
        w.connect(1, 2, 0, door);
        w.connect(0, 2, 1, door);
        w.begin(0);
        Check.says(w, "east", "done 0, 9 -1 0");
        Check.says(w, "go east", "done 0, 9 -1 0");
        Check.says(w, "down", "done 1");
        Check.due("the same room", 0, () -> w.count(4));
        Check.due("is a turn", 1, () -> w.count(3));
        Check.says(w, "south", "done 0, 6 " + door + " 0");
        Check.says(w, "go north", "done 1");
        Check.due("the other room", 1, () -> w.count(4));
        Check.due("with what is carried", -1, () -> w.outer(key));
        Check.says(w, "north", "done 0, 9 -1 0");
        Check.says(w, "south", "done 0, 6 " + door + " 0");
        w.undo();
        Check.says(w, "unlock door with key. south", "done 1, 6 " + door + " 1");
        Check.says(w, "open door. south. south", "done 3");
        Check.due("back again", 0, () -> w.count(4));
    }

    private static void take() {
        Game w = room(true);
        int door = w.addThing(DOOR, DOOR_NOUN, 0, 1);
        int coin = add(w, OBJECT, COIN, 0, 9, 0, 0);
        int bell = add(w, OBJECT, BELL, 0, 2, 0, 0);
        int box = add(w, CONTAINER, BOX, 0, 3, 0, 0);
        int rope = add(w, OBJECT, ROPE, 0, 8, 1, box);
        int book = add(w, OBJECT, BOOK, 0, 1, 3, 0);
        int key = add(w, OBJECT, KEY, 0, 1, 3, 0);
        w.setFlag(bell, FIXED, true);
        w.setFlag(key, FIXED, true);
        w.setFlag(box, OPEN, true);
        w.connect(0, 1, 0, door);
        w.begin(0);
        Check.says(w, "take door", "done 0, 10 " + door + " 0");
        Check.says(w, "take bell", "done 0, 10 " + bell + " 0");
        Check.says(w, "take key", "done 0, 10 " + key + " 0");
        Check.says(w, "take book", "done 0, 5 -1 0");
        Check.says(w, "take coin", "done 1");
        dueNumber(w, coin, 9, 3);
        dueNumber(w, coin, 10, -1);
        Check.says(w, "take box", "done 0, 7 " + box + " 0");
        Check.says(w, "drop book. take rope", "done 2");
        dueNumber(w, box, 11, 0);
        Check.due("load", 18, () -> w.count(9));
        Check.says(w, "take box", "done 0, 7 " + box + " 0");
        Check.says(w, "take book", "done 1");
        Check.says(w, "drop coin. take box. put rope in box. take coin", "done 3, 7 " + coin + " 3");
        Check.says(w, "drop book. drop key. drop all. take box", "done 4");
        Check.due("load with what is in it", 11, () -> w.count(9));
        Check.says(w, "take coin", "done 1");
        Check.due("the greatest load", 20, () -> w.count(9));
        Check.says(w, "take rope", "done 1");
        Check.due("out of what is carried", 20, () -> w.count(9));
        Check.says(w, "take rope", "done 0, 5 -1 0");
    }

    private static void takeAll() {
        Game w = room(true);
        w.addRoom(false);
        int coin = add(w, OBJECT, COIN, 0, 9, 0, 0);
        int box = add(w, CONTAINER, BOX, 0, 3, 0, 0);
        int rope = add(w, OBJECT, ROPE, 0, 7, 1, box);
        int bell = add(w, OBJECT, BELL, 0, 1, 0, 0);
        int bookcase = add(w, SUPPORTER, BOOK, 0, 1, 0, 0);
        int book = add(w, OBJECT, BOOK, RED, 1, 2, bookcase);
        int far = add(w, OBJECT, KEY, 0, 1, 0, 1);
        add(w, OBJECT, KEY, RED, 1, 4, 0);
        w.setFlag(bell, FIXED, true);
        w.connect(0, 0, 1, -1);
        w.begin(0);
        Check.says(w, "take all", "done 1");
        dueNumber(w, coin, 9, 3);
        dueNumber(w, box, 9, 3);
        dueNumber(w, rope, 9, 1);
        dueNumber(w, bell, 9, 0);
        dueNumber(w, bookcase, 9, 0);
        dueNumber(w, book, 9, 2);
        Check.due("too heavy with what is on it", 19, () -> w.count(9));
        Check.says(w, "take all", "done 0, 5 -1 0");
        Check.says(w, "drop coin. take all", "done 2");
        dueNumber(w, coin, 9, 3);
        Check.says(w, "drop box. drop coin. north. take all", "done 3, 5 -1 3");
        dueNumber(w, far, 9, 0);
        Game heavy = room(true);
        add(heavy, OBJECT, COIN, 0, 9, 3, 0);
        add(heavy, OBJECT, COIN, RED, 9, 0, 0);
        int small = add(heavy, OBJECT, COIN, OLD, 3, 0, 0);
        int tiny = add(heavy, OBJECT, COIN, BIG, 2, 0, 0);
        heavy.begin(0);
        Check.says(heavy, "take all", "done 1");
        Check.due("goes on with later ones", 20, () -> heavy.count(9));
        dueNumber(heavy, small, 9, 0);
        dueNumber(heavy, tiny, 9, 3);
    }

    private static void drop() {
        Game w = room(true);
        int box = add(w, CONTAINER, BOX, 0, 3, 3, 0);
        int coin = add(w, OBJECT, COIN, 0, 1, 1, box);
        int bell = add(w, OBJECT, BELL, 0, 1, 0, 0);
        int key = add(w, OBJECT, KEY, 0, 1, 3, 0);
        w.setFlag(key, FIXED, true);
        w.begin(0);
        Check.says(w, "drop bell", "done 0, 5 -1 0");
        Check.says(w, "drop coin", "done 0, 1 -1 0");
        Check.says(w, "open box. drop coin", "done 1, 5 -1 1");
        Check.says(w, "drop key", "done 1");
        dueNumber(w, key, 9, 0);
        dueNumber(w, key, 10, 0);
        Check.says(w, "drop box", "done 1");
        dueNumber(w, coin, 9, 1);
        Check.due("with what is in it", 0, () -> w.outer(coin));
    }

    private static void dropAll() {
        Game w = room(false);
        w.addRoom(false);
        w.connect(0, 0, 1, -1);
        int box = add(w, CONTAINER, BOX, 0, 3, 3, 0);
        int coin = add(w, OBJECT, COIN, 0, 1, 1, box);
        int bell = add(w, OBJECT, BELL, 0, 1, 3, 0);
        w.begin(0);
        Check.says(w, "north. drop all", "done 2");
        dueNumber(w, box, 10, 1);
        dueNumber(w, bell, 10, 1);
        dueNumber(w, coin, 10, box);
        Check.says(w, "drop all", "done 0, 5 -1 0");
        Check.due("load", 0, () -> w.count(9));
    }

    private static void put() {
        Game w = room(true);
        int box = add(w, CONTAINER, BOX, 0, 3, 0, 0);
        int bell = add(w, SUPPORTER, BELL, 0, 2, 0, 0);
        int coin = add(w, OBJECT, COIN, 0, 4, 0, 0);
        int rope = add(w, OBJECT, ROPE, 0, 3, 3, 0);
        w.setFlag(box, OPEN, true);
        w.setCapacity(box, 6);
        w.setCapacity(bell, 4);
        w.begin(0);
        Check.says(w, "put coin in box", "done 1");
        dueNumber(w, coin, 9, 1);
        dueNumber(w, coin, 10, box);
        Check.says(w, "put coin in box", "done 0, 5 -1 0");
        Check.says(w, "put rope in box", "done 0, 7 " + box + " 0");
        Check.says(w, "put rope on bell", "done 1");
        dueNumber(w, rope, 9, 2);
        dueNumber(w, rope, 10, bell);
        Check.says(w, "put rope on bell", "done 0, 5 -1 0");
        Check.says(w, "put coin on bell", "done 0, 7 " + bell + " 0");
        Check.says(w, "put bell in box", "done 1");
        Check.due("only its own size counts", 6, () -> w.thing(box, 11));
        Check.says(w, "put rope in box", "done 0, 7 " + box + " 0");
        Check.says(w, "take coin. put rope in box. put coin on bell", "done 3");
        Check.says(w, "close box. put rope on bell", "done 1, 1 -1 1");
    }

    private static void putOrder() {
        Game w = room(true);
        int door = w.addThing(DOOR, DOOR_NOUN, 0, 1);
        int box = add(w, CONTAINER, BOX, 0, 3, 0, 0);
        int bell = add(w, SUPPORTER, BELL, 0, 2, 0, 0);
        int fixed = add(w, OBJECT, COIN, RED, 4, 0, 0);
        int coin = add(w, OBJECT, COIN, OLD, 4, 0, 0);
        int inner = add(w, CONTAINER, BOOK, 0, 9, 2, bell);
        w.connect(0, 0, 0, door);
        w.setFlag(fixed, FIXED, true);
        w.setCapacity(box, 0);
        w.setCapacity(bell, 9);
        w.begin(0);
        Check.says(w, "put door in box", "done 0, 10 " + door + " 0");
        Check.says(w, "put red coin on box", "done 0, 10 " + fixed + " 0");
        Check.says(w, "put red coin in red coin", "done 0, 10 " + fixed + " 0");
        Check.says(w, "put old coin on box", "done 0, 4 " + box + " 0");
        Check.says(w, "put old coin in bell", "done 0, 4 " + bell + " 0");
        Check.says(w, "put old coin in door", "done 0, 4 " + door + " 0");
        Check.says(w, "put old coin on old coin", "done 0, 4 " + coin + " 0");
        Check.says(w, "put box in box", "done 0, 13 " + box + " 0");
        Check.says(w, "put bell on bell", "done 0, 13 " + bell + " 0");
        Check.says(w, "put bell in book", "done 0, 13 " + bell + " 0");
        Check.says(w, "put old coin in box", "done 0, 6 " + box + " 0");
        Check.says(w, "put book on bell", "done 0, 5 -1 0");
        Check.says(w, "open box. put old coin in box", "done 1, 7 " + box + " 1");
        Check.says(w, "put old coin on bell", "done 0, 7 " + bell + " 0");
        Check.says(w, "put old coin in book", "done 0, 6 " + inner + " 0");
        Check.says(w, "open book. put old coin in book. close book. put old coin in book", "done 3, 1 -1 3");
        Game c = room(true);
        int glass = add(c, CONTAINER, BOX, 0, 1, 0, 0);
        int ring = add(c, OBJECT, KEY, 0, 1, 1, glass);
        int tray = add(c, SUPPORTER, BELL, 0, 1, 0, 0);
        int top = add(c, CONTAINER, COIN, 0, 1, 2, tray);
        c.setFlag(glass, TRANSPARENT, true);
        c.begin(0);
        Check.says(c, "put key in box", "done 0, 3 " + ring + " 0");
        Check.says(c, "put bell in key", "done 0, 3 " + ring + " 0");
        Check.says(c, "put bell in coin", "done 0, 13 " + tray + " 0");
        Check.says(c, "put coin on bell", "done 0, 5 -1 0");
        Check.says(c, "take coin. put coin on bell. put coin on bell", "done 2, 5 -1 2");
        dueNumber(c, top, 10, tray);
    }

    private static void putLoad() {
        Game w = room(true);
        int bag = add(w, CONTAINER, BOX, 0, 2, 3, 0);
        int tray = add(w, SUPPORTER, BELL, 0, 1, 1, bag);
        int nine = add(w, OBJECT, COIN, 0, 9, 0, 0);
        int eight = add(w, OBJECT, ROPE, 0, 8, 0, 0);
        int one = add(w, OBJECT, KEY, 0, 1, 0, 0);
        int chest = add(w, CONTAINER, BOOK, 0, 5, 0, 0);
        w.setFlag(bag, OPEN, true);
        w.setFlag(chest, OPEN, true);
        w.begin(0);
        Check.says(w, "put coin on bell. put rope in box", "done 2");
        Check.due("the greatest load", 20, () -> w.count(9));
        Check.says(w, "put key in box", "done 0, 7 " + bag + " 0");
        Check.says(w, "put key on bell", "done 0, 7 " + tray + " 0");
        Check.says(w, "put key in book", "done 1");
        Check.says(w, "put coin in box. put rope on bell. put rope in box", "done 3");
        Check.says(w, "take rope. put rope on bell", "done 2");
        Check.says(w, "put bell in book. take all", "done 1, 5 -1 1");
        Check.due("load", 11, () -> w.count(9));
        Check.says(w, "put bell in box", "done 1");
        Check.due("with what is on it", 20, () -> w.count(9));
        Check.due("through others", -1, () -> w.outer(eight));
        Check.says(w, "put box in book", "done 1");
        Check.due("nothing is carried", 0, () -> w.count(9));
        dueNumber(w, one, 10, chest);
        dueNumber(w, nine, 10, bag);
    }

    private static void openAndClose() {
        Game w = room(true);
        int door = w.addThing(DOOR, DOOR_NOUN, 0, 1);
        int box = add(w, CONTAINER, BOX, 0, 1, 0, 0);
        int[] others = {add(w, OBJECT, COIN, 0, 1, 0, 0), add(w, SUPPORTER, BELL, 0, 1, 0, 0),
            add(w, LAMP, LAMP_NOUN, 0, 1, 0, 0)};
        w.connect(0, 0, 0, door);
        w.begin(0);
        String[] nouns = {"coin", "bell", "lamp"};
        for (int i = 0; i < 3; i++) {
            Check.says(w, "open " + nouns[i], "done 0, 4 " + others[i] + " 0");
            Check.says(w, "close " + nouns[i], "done 0, 4 " + others[i] + " 0");
        }
        Check.says(w, "open door. open box", "done 2");
        dueNumber(w, door, 8, 2);
        dueNumber(w, box, 8, 2);
        Check.says(w, "open door", "done 0, 5 -1 0");
        Check.says(w, "open box", "done 0, 5 -1 0");
        Check.says(w, "close door. close box", "done 2");
        dueNumber(w, door, 8, 0);
        dueNumber(w, box, 8, 0);
        Check.says(w, "close door", "done 0, 5 -1 0");
        Check.says(w, "close box", "done 0, 5 -1 0");
        w.stop();
        w.setFlag(door, LOCKED, true);
        w.setFlag(box, LOCKED, true);
        w.begin(0);
        Check.says(w, "open door", "done 0, 6 " + door + " 0");
        Check.says(w, "open box", "done 0, 6 " + box + " 0");
        Check.says(w, "close box", "done 0, 5 -1 0");
    }

    private static void lockAndUnlock() {
        Game w = room(true);
        int door = w.addThing(DOOR, DOOR_NOUN, 0, 1);
        int box = add(w, CONTAINER, BOX, 0, 1, 0, 0);
        int key = add(w, OBJECT, KEY, 0, 1, 0, 0);
        int coin = add(w, OBJECT, COIN, 0, 1, 3, 0);
        int bell = add(w, SUPPORTER, BELL, 0, 1, 0, 0);
        w.connect(0, 0, 0, door);
        w.setKey(door, key);
        w.setKey(box, box);
        w.begin(0);
        Check.says(w, "lock bell with key", "done 0, 4 " + bell + " 0");
        Check.says(w, "unlock coin with key", "done 0, 4 " + coin + " 0");
        Check.says(w, "unlock door with coin", "done 0, 5 -1 0");
        Check.says(w, "lock door with coin", "done 0, 8 " + coin + " 0");
        Check.says(w, "open door. lock door with coin", "done 1, 6 " + door + " 1");
        Check.says(w, "unlock door with key", "done 0, 5 -1 0");
        Check.says(w, "close door. lock door with key", "done 2");
        dueNumber(w, door, 8, 4);
        Check.says(w, "lock door with coin", "done 0, 5 -1 0");
        Check.says(w, "open door", "done 0, 6 " + door + " 0");
        Check.says(w, "unlock door with coin", "done 0, 8 " + coin + " 0");
        Check.says(w, "unlock door with door", "done 0, 8 " + door + " 0");
        Check.says(w, "unlock door with key", "done 1");
        dueNumber(w, door, 8, 0);
        Check.says(w, "lock box with box. unlock box with box", "done 2");
        w.stop();
        w.setKey(door, -1);
        w.setFlag(door, LOCKED, true);
        w.begin(0);
        Check.says(w, "unlock door with key", "done 0, 8 " + key + " 0");
        Check.says(w, "unlock door with door", "done 0, 8 " + door + " 0");
        Check.says(w, "lock box with key", "done 0, 8 " + key + " 0");
    }

    private static void lightAndQuench() {
        Game w = room(true);
        int lamp = add(w, LAMP, LAMP_NOUN, RED, 1, 0, 0);
        int empty = add(w, LAMP, LAMP_NOUN, OLD, 1, 0, 0);
        int coin = add(w, OBJECT, COIN, 0, 1, 0, 0);
        w.setFuel(lamp, 9);
        w.begin(0);
        Check.says(w, "light coin", "done 0, 4 " + coin + " 0");
        Check.says(w, "quench coin", "done 0, 4 " + coin + " 0");
        Check.says(w, "quench red lamp", "done 0, 5 -1 0");
        Check.says(w, "light red lamp", "done 1");
        dueNumber(w, lamp, 8, 16);
        dueNumber(w, lamp, 6, 8);
        Check.says(w, "light red lamp", "done 0, 5 -1 0");
        Check.says(w, "quench red lamp", "done 1");
        dueNumber(w, lamp, 8, 0);
        dueNumber(w, lamp, 6, 8);
        Check.says(w, "light old lamp", "done 0, 11 " + empty + " 0");
        Check.says(w, "quench old lamp", "done 0, 5 -1 0");
        Check.due("no event", 0, () -> w.count(8));
    }

    private static void meaning() {
        Game w = room(true);
        w.addRoom(true);
        add(w, CONTAINER, BOX, RED, 1, 0, 0);
        add(w, CONTAINER, BOX, OLD, 1, 0, 0);
        add(w, CONTAINER, COIN, RED, 1, 0, 0);
        add(w, CONTAINER, COIN, RED, 1, 0, 0);
        add(w, OBJECT, BELL, 0, 1, 0, 1);
        add(w, OBJECT, ROPE, 0, 1, 4, 0);
        add(w, CONTAINER, KEY, 0, 1, 0, 0);
        w.begin(0);
        Check.says(w, "open box", "done 0, 2 -1 0");
        Check.says(w, "open red box. open old box", "done 2");
        Check.says(w, "open big box", "done 0, 1 -1 0");
        Check.says(w, "open red coin", "done 0, 2 -1 0");
        Check.says(w, "open old coin", "done 0, 1 -1 0");
        Check.says(w, "open bell", "done 0, 1 -1 0");
        Check.says(w, "open rope", "done 0, 1 -1 0");
        Check.says(w, "open key", "done 1");
        Check.says(w, "close old key", "done 0, 1 -1 0");
    }

    private static void meaningForVerbs() {
        Game w = room(true);
        int carried = add(w, OBJECT, COIN, RED, 1, 3, 0);
        int there = add(w, OBJECT, COIN, OLD, 1, 0, 0);
        int box = add(w, CONTAINER, BOX, 0, 1, 3, 0);
        int tray = add(w, SUPPORTER, BELL, 0, 1, 0, 0);
        w.setFlag(box, OPEN, true);
        w.begin(0);
        Check.says(w, "take coin", "done 1");
        dueNumber(w, there, 9, 3);
        Check.says(w, "take coin", "done 0, 2 -1 0");
        Check.says(w, "drop coin", "done 0, 2 -1 0");
        Check.says(w, "drop red coin. drop coin", "done 2");
        Check.says(w, "drop coin", "done 0, 2 -1 0");
        Check.says(w, "take coin", "done 0, 2 -1 0");
        Check.says(w, "take red coin. put coin on bell", "done 2");
        dueNumber(w, carried, 10, tray);
        Check.says(w, "put coin on bell", "done 0, 2 -1 0");
        Check.says(w, "take red coin. put red coin in box. take coin", "done 2, 2 -1 2");
        Check.says(w, "put coin on bell", "done 0, 2 -1 0");
        Check.says(w, "take old coin. drop coin", "done 2");
        dueNumber(w, there, 9, 0);
        Check.says(w, "take old coin. put coin on bell", "done 2");
        dueNumber(w, there, 10, tray);
        Check.says(w, "put box on coin", "done 0, 2 -1 0");
        Check.says(w, "take old coin. put box on coin", "done 1, 2 -1 1");
        Check.says(w, "open coin", "done 0, 2 -1 0");
    }

    private static void firstReasons() {
        Game w = room(true);
        int glass = add(w, CONTAINER, BOX, 0, 1, 0, 0);
        int coin = add(w, OBJECT, COIN, RED, 1, 1, glass);
        int lamp = add(w, LAMP, LAMP_NOUN, 0, 1, 1, glass);
        add(w, OBJECT, KEY, RED, 1, 0, 0);
        add(w, OBJECT, KEY, OLD, 1, 0, 0);
        int bag = add(w, CONTAINER, BOOK, 0, 1, 3, 0);
        int bell = add(w, OBJECT, BELL, 0, 1, 1, bag);
        w.setFlag(glass, TRANSPARENT, true);
        w.setFlag(bag, TRANSPARENT, true);
        w.begin(0);
        String notReached = "done 0, 3 " + coin + " 0";
        for (String verb : new String[] {"take", "drop", "open", "close", "light", "quench"}) {
            Check.says(w, verb + " coin", notReached);
        }
        Check.says(w, "take bell", "done 0, 3 " + bell + " 0");
        Check.says(w, "drop bell", "done 0, 3 " + bell + " 0");
        for (String verb : new String[] {"put coin in ", "lock coin with ", "unlock coin with "}) {
            Check.says(w, verb + "rope", "done 0, 1 -1 0");
            Check.says(w, verb + "key", "done 0, 2 -1 0");
            Check.says(w, verb + "lamp", notReached);
            Check.says(w, verb + "box", notReached);
        }
        Check.says(w, "put rope in key", "done 0, 1 -1 0");
        Check.says(w, "put key in rope", "done 0, 2 -1 0");
        Check.says(w, "lock red key with lamp", "done 0, 3 " + lamp + " 0");
        Check.says(w, "put box on coin", "done 0, 3 " + coin + " 0");
        Check.says(w, "open box. light lamp. take coin", "done 1, 11 " + lamp + " 1");
        Check.says(w, "take coin", "done 1");
    }

    private static void oneAfterTheOther() {
        Game w = room(true);
        int box = add(w, CONTAINER, BOX, 0, 1, 0, 0);
        int coin = add(w, OBJECT, COIN, 0, 1, 1, box);
        w.begin(0);
        Check.says(w, "take coin. open box", "done 0, 1 -1 0");
        dueNumber(w, box, 8, 0);
        Check.says(w, "open box. take coin. close box. take coin. drop coin", "done 3, 5 -1 3");
        dueNumber(w, coin, 9, 3);
        dueNumber(w, box, 8, 0);
        Check.due("the turns", 3, () -> w.count(7));
        Check.says(w, "drop coin. drop coin. x", "fault 22");
        dueNumber(w, coin, 9, 3);
    }
}
