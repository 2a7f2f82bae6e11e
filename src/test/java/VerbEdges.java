import java.util.ArrayList;
import java.util.List;

/** The parts Meaning, Reasons and Verbs of the description, what Details adds to them, and promise 19. */
final class VerbEdges extends Edges {
    /** The nouns of the things in oneOfEach(). */
    private static final String[] NOUN_OF_KIND = {"coin", "box", "bell", "lamp", "door"};

    /** An object with an adjective. */
    private static int object(Game g, int noun, int adjective, int size, int place, int target) {
        int object = g.addThing(OBJECT, noun, adjective, size);
        g.put(object, place, target);
        return object;
    }

    /** A closed container, or a supporter. */
    private static int holderAt(Game g, int kind, int noun, int capacity, int place, int target) {
        int holder = holder(g, kind, noun, 1, capacity);
        g.put(holder, place, target);
        return holder;
    }

    private static void place(Game g, int thing, int place, int target) {
        due(place, () -> g.thing(thing, 9));
        due(target, () -> g.thing(thing, 10));
    }

    @Sentence(of = "Description, Meaning", says = "A noun phrase means the visible thing that has its noun and, if it")
    static void whatAPhraseMeans() {
        Game g = rooms(true, true);
        object(g, COIN, 0, 1, IN_ROOM, 0);
        int red = object(g, COIN, RED, 1, IN_ROOM, 1);
        object(g, ROPE, OLD, 1, IN_ROOM, 0);
        int box = holderAt(g, CONTAINER, BOX, 9, IN_ROOM, 0);
        object(g, BELL, 0, 1, INSIDE, box);
        object(g, KEY, 0, 1, NOWHERE, 0);
        g.begin(0);
        says(g, "take red coin", "done 0, 1 -1 0");
        says(g, "take bell", "done 0, 1 -1 0");
        says(g, "take key", "done 0, 1 -1 0");
        says(g, "take red rope", "done 0, 1 -1 0");
        says(g, "take big box", "done 0, 1 -1 0");
        says(g, "take coin. take old rope. take box", "done 3");
        place(g, red, IN_ROOM, 1);
        says(g, "drop rope. drop coin", "done 2");
    }

    /** A red coin that is carried, and others as they are told; a bell and an open box to put things on and in. */
    private static Game coins(int oldPlace, int bigPlace) {
        Game g = rooms(true);
        int box = openBox(g, IN_ROOM, 0);
        holderAt(g, SUPPORTER, BELL, 30, IN_ROOM, 0);
        object(g, COIN, RED, 1, CARRIED, 0);
        object(g, COIN, OLD, 1, oldPlace, oldPlace == INSIDE ? box : 0);
        object(g, COIN, BIG, 1, bigPlace, bigPlace == INSIDE ? box : 0);
        g.begin(0);
        return g;
    }

    @Sentence(of = "Description, Meaning", says = "If several have them, then for take those that are not carried")
    static void severalForTake() {
        says(coins(IN_ROOM, NOWHERE), "take coin. take coin", "done 1, 2 -1 1");
        says(coins(IN_ROOM, CARRIED), "take coin", "done 1");
        says(coins(IN_ROOM, IN_ROOM), "take coin", "done 0, 2 -1 0");
        says(coins(CARRIED, CARRIED), "take coin", "done 0, 2 -1 0");
        says(coins(NOWHERE, NOWHERE), "take coin", "done 0, 5 -1 0");
        says(coins(INSIDE, NOWHERE), "take coin", "done 1");
        says(coins(INSIDE, INSIDE), "take coin", "done 0, 2 -1 0");
        Game g = coins(IN_ROOM, CARRIED);
        says(g, "take coin", "done 1");
        place(g, 3, CARRIED, -1);
    }

    @Sentence(of = "Description, Meaning", says = "If several have them, then for take those that are not carried")
    static void severalForDrop() {
        Game g = coins(IN_ROOM, IN_ROOM);
        says(g, "drop coin", "done 1");
        place(g, 2, IN_ROOM, 0);
        says(g, "drop coin", "done 0, 2 -1 0");
        says(coins(CARRIED, IN_ROOM), "drop coin", "done 0, 2 -1 0");
        says(coins(CARRIED, CARRIED), "drop coin", "done 0, 2 -1 0");
        says(coins(INSIDE, NOWHERE), "drop coin. drop coin", "done 1, 2 -1 1");
        says(coins(NOWHERE, NOWHERE), "drop coin. drop coin", "done 1, 5 -1 1");
    }

    @Sentence(of = "Description, Meaning", says = "If several have them, then for take those that are not carried")
    static void severalForPut() {
        Game g = coins(IN_ROOM, IN_ROOM);
        says(g, "put coin on bell", "done 1");
        place(g, 2, UPON, 1);
        says(g, "put coin on bell", "done 0, 2 -1 0");
        says(coins(CARRIED, IN_ROOM), "put coin on bell", "done 0, 2 -1 0");
        says(coins(INSIDE, NOWHERE), "put coin in box. put coin in box", "done 1, 2 -1 1");
        // The second noun phrase, and those of the other verbs, do not choose.
        says(coins(IN_ROOM, NOWHERE), "put box on coin", "done 0, 2 -1 0");
        says(coins(NOWHERE, NOWHERE), "put box on coin", "done 0, 4 2 0");
        for (String verb : new String[] {"open coin", "close coin", "light coin", "quench coin", "lock coin with box",
            "unlock coin with box", "lock box with coin", "unlock box with coin"}) {
            says(coins(IN_ROOM, NOWHERE), verb, "done 0, 2 -1 0");
            says(coins(CARRIED, NOWHERE), verb, "done 0, 2 -1 0");
        }
    }

    @Sentence(of = "Description, Meaning", says = "If several have them, then for take those that are not carried")
    static void carriedMeansItsOwnPlace() {
        Game g = rooms(true);
        int box = openBox(g, CARRIED, 0);
        int red = object(g, COIN, RED, 1, CARRIED, 0);
        int old = object(g, COIN, OLD, 1, INSIDE, box);
        int bell = holderAt(g, SUPPORTER, BELL, 30, IN_ROOM, 0);
        g.begin(0);
        says(g, "put coin on bell", "done 1");
        place(g, red, UPON, bell);
        says(g, "take coin", "done 0, 2 -1 0");
        says(g, "take red coin. take coin", "done 2");
        place(g, old, CARRIED, -1);
        says(g, "put old coin in box. drop coin", "done 2");
        place(g, red, IN_ROOM, 0);
        place(g, old, INSIDE, box);
    }

    @Sentence(of = "Description, Reasons", says = "A command is refused for a reason: 1, a noun phrase means no thing")
    static void eachReason() {
        for (int i = 0; i < REASONS.length; i++) {
            final int reason = i + 1;
            Game g = reasons();
            g.type(REASONS[i]);
            due(0, g::command);
            due(reason, () -> g.refusal(0));
        }
    }

    /** A command for each reason, from 1, in the world of reasons(), and the thing that each concerns. */
    private static final String[] REASONS = {"take door", "take bell", "take key", "open coin", "take coin", "north",
        "put coin in box", "unlock book with coin", "up", "take rope", "light lamp", "look", "put box in box"};
    private static final int[] CONCERNED = {-1, -1, 6, 1, -1, 8, 0, 1, -1, 2, 7, -1, 0};

    /** A dark room in which much is carried; a turn can be undone, and there is a snapshot. */
    private static Game reasons() {
        Game g = rooms(false);
        g.save();
        int box = openBox(g, CARRIED, 0);
        g.setCapacity(box, 8);
        object(g, COIN, 0, 9, CARRIED, 0);
        int rope = object(g, ROPE, 0, 1, CARRIED, 0);
        g.setFlag(rope, FIXED, true);
        object(g, BELL, RED, 1, CARRIED, 0);
        object(g, BELL, OLD, 1, CARRIED, 0);
        int book = holderAt(g, CONTAINER, BOOK, 9, CARRIED, 0);
        g.setFlag(book, TRANSPARENT, true);
        g.setFlag(book, LOCKED, true);
        g.setKey(book, box);
        object(g, KEY, 0, 1, INSIDE, book);
        lamp(g, 0, false, CARRIED, 0);
        int door = g.addThing(DOOR, GATE, 0, 1);
        g.connect(0, NORTH, 0, door);
        g.begin(0);
        g.say("wait");
        return g;
    }

    @Sentence(of = "Description, Reasons", says = "A command that is refused changes nothing.")
    static void refusedChangesNothing() {
        for (String refused : REASONS) {
            Game touched = reasons();
            Game untouched = reasons();
            touched.say(refused);
            same("the world after \"" + refused + "\"", untouched.world(), touched.world());
            due(untouched.count(6), () -> touched.count(6));
            due(true, touched::isReplayed);
            due(untouched.undo(), touched::undo);
            same("the world undone", untouched.world(), touched.world());
            due(untouched.restore(), touched::restore);
            same("the world restored", untouched.world(), touched.world());
        }
    }

    /** Phrases that mean nothing, several things, two things out of reach, and two that are there. */
    private static Game phrases() {
        Game g = rooms(true);
        int glass = holderAt(g, CONTAINER, LIGHT, 30, IN_ROOM, 0);
        object(g, COIN, 0, 1, INSIDE, glass);
        object(g, KEY, 0, 1, INSIDE, glass);
        object(g, BELL, RED, 1, IN_ROOM, 0);
        object(g, BELL, OLD, 1, IN_ROOM, 0);
        object(g, BOX, 0, 1, IN_ROOM, 0);
        object(g, BOOK, 0, 1, IN_ROOM, 0);
        g.setFlag(glass, TRANSPARENT, true);
        g.begin(0);
        return g;
    }

    @Sentence(of = "Description, Reasons", says = "The reason concerns a thing or none; noun phrases are looked at")
    static void fromLeftToRight() {
        String[] firsts = {"rope", "bell", "coin", "box"};
        String[] seconds = {"door", "bell", "key", "book"};
        String[][] want = {{"1 -1", "1 -1", "1 -1", "1 -1"}, {"2 -1", "2 -1", "2 -1", "2 -1"},
            {"1 -1", "2 -1", "3 1", "3 1"}, {"1 -1", "2 -1", "3 2", "4 "}};
        for (int first = 0; first < 4; first++) {
            for (int second = 0; second < 4; second++) {
                boolean isVerbs = first == 3 && second == 3;
                String reason = want[first][second];
                String put = "put " + firsts[first] + " on " + seconds[second];
                says(phrases(), put, "done 0, " + reason + (isVerbs ? "6 0" : " 0"));
                for (String verb : new String[] {"lock ", "unlock "}) {
                    String text = verb + firsts[first] + " with " + seconds[second];
                    says(phrases(), text, "done 0, " + reason + (isVerbs ? "5 0" : " 0"));
                }
            }
        }
        says(phrases(), "put coin in coin", "done 0, 3 1 0");
        says(phrases(), "take box. put box in rope", "done 1, 1 -1 1");
    }

    @Sentence(of = "Description, Verbs", says = "After the reasons 1 to 3, the following reasons are looked at in")
    static void afterTheFirstThree() {
        for (String verb : new String[] {"take", "drop", "open", "close", "light", "quench"}) {
            says(phrases(), verb + " rope", "done 0, 1 -1 0");
            says(phrases(), verb + " bell", "done 0, 2 -1 0");
            // For each of these verbs there is a later reason against a coin in a closed lamp of glass, too.
            says(phrases(), verb + " coin", "done 0, 3 1 0");
        }
        Game fixed = phrases();
        fixed.stop();
        fixed.setFlag(1, FIXED, true);
        fixed.begin(0);
        says(fixed, "take coin", "done 0, 3 1 0");
        says(fixed, "put coin on coin", "done 0, 3 1 0");
        says(fixed, "put coin on box", "done 0, 3 1 0");
        says(fixed, "lock coin with coin", "done 0, 3 1 0");
        says(fixed, "open lamp. take coin", "done 1, 10 1 1");
    }

    @Sentence(of = "Description, Verbs", says = "look: 12.")
    static void look() {
        says(emptyRoom(true), "look", "done 1");
        says(emptyRoom(false), "look", "done 0, 12 -1 0");
        Game g = rooms(false);
        lamp(g, 1, false, CARRIED, 0);
        lamp(g, 3, true, IN_ROOM, 0);
        g.begin(0);
        says(g, "look. wait. look. wait. look. wait. look", "done 6, 12 -1 6");
    }

    private static Game emptyRoom(boolean isLight) {
        Game g = rooms(isLight);
        g.begin(0);
        return g;
    }

    @Sentence(of = "Description, Verbs", says = "wait: none.")
    static void waitIsNeverRefused() {
        says(emptyRoom(true), "wait", "done 1");
        Game dark = emptyRoom(false);
        says(dark, "wait. wait. wait. wait. wait. wait. wait. wait. wait. wait. wait. wait. wait", "done 13");
        due(13, () -> dark.count(3));
        says(reasons(), "wait", "done 1");
    }

    @Sentence(of = "Description, Verbs", says = "A direction: 9; 6 with the door, if it is not open; the player is in")
    static void eachDirection() {
        String[] words = {"north", "east", "south", "west", "up", "down"};
        for (int direction = NORTH; direction <= DOWN; direction++) {
            for (String go : new String[] {"", "go "}) {
                Game g = rooms(false, false);
                int door = g.addThing(DOOR, GATE, 0, 1);
                int other = g.addThing(DOOR, GATE, 0, 1);
                g.setFlag(other, OPEN, true);
                String text = go + words[direction];
                g.begin(0);
                says(g, text, "done 0, 9 -1 0");
                g.stop();
                g.connect(0, (direction + 1) % 6, 1, -1);
                g.begin(0);
                says(g, text, "done 0, 9 -1 0");
                g.stop();
                g.connect(0, direction, 1, door);
                g.begin(0);
                says(g, text, "done 0, 6 " + door + " 0");
                g.stop();
                g.setFlag(door, LOCKED, true);
                g.begin(0);
                says(g, text, "done 0, 6 " + door + " 0");
                due(0, () -> g.count(4));
                g.stop();
                g.setFlag(door, LOCKED, false);
                g.setFlag(door, OPEN, true);
                g.begin(0);
                says(g, text, "done 1");
                due(1, () -> g.count(4));
                g.stop();
                g.connect(0, direction, 1, -1);
                g.begin(0);
                says(g, text, "done 1");
                due(1, () -> g.count(4));
                due(1, () -> g.count(3));
            }
        }
    }

    /** What is carried, of this size, with a coin of this size on the floor. */
    private static Game loaded(int load, int size) {
        Game g = rooms(true);
        for (int left = load; left > 0; left -= 9) {
            object(g, ROPE, 0, Math.min(9, left), CARRIED, 0);
        }
        object(g, COIN, 0, size, IN_ROOM, 0);
        g.begin(0);
        return g;
    }

    @Sentence(of = "Description, Verbs", says = "take: 10; 5 if it is carried; 7 if the load would be above 20.")
    static void take() {
        for (int load = 0; load <= 20; load++) {
            for (int size = 1; size <= 9; size++) {
                int coin = (load + 8) / 9;
                boolean isTooMuch = load + size > 20;
                says(loaded(load, size), "take coin", isTooMuch ? "done 0, 7 " + coin + " 0" : "done 1");
            }
        }
        says(loaded(0, 9), "take coin. take coin", "done 1, 5 -1 1");
        says(loaded(20, 9), "take rope", "done 0, 2 -1 0");
        says(loaded(9, 9), "take rope", "done 0, 5 -1 0");
        for (int place : new int[] {IN_ROOM, CARRIED}) {
            Game g = rooms(true);
            int door = g.addThing(DOOR, GATE, 0, 9);
            int bell = holderAt(g, SUPPORTER, BELL, 30, place, 0);
            g.connect(0, NORTH, 0, door);
            g.setFlag(bell, FIXED, true);
            object(g, COIN, 0, 9, CARRIED, 0);
            object(g, ROPE, 0, 9, place, 0);
            g.begin(0);
            says(g, "take bell", "done 0, 10 " + bell + " 0");
            says(g, "take door", "done 0, 10 " + door + " 0");
        }
    }

    @Sentence(of = "Description, Verbs", says = "take: 10; 5 if it is carried; 7 if the load would be above 20.")
    static void takeWithWhatIsInIt() {
        Game g = rooms(true);
        int box = openBox(g, IN_ROOM, 0);
        int coin = object(g, COIN, 0, 9, INSIDE, box);
        object(g, ROPE, 0, 2, INSIDE, box);
        object(g, KEY, 0, 9, CARRIED, 0);
        g.begin(0);
        says(g, "take box", "done 0, 7 " + box + " 0");
        says(g, "take rope. drop rope. take box", "done 3");
        due(19, () -> g.count(9));
        says(g, "take rope", "done 0, 7 2 0");
        // What is taken out of something carried is no new load.
        says(g, "take coin. drop key. take rope. take key", "done 3, 7 3 3");
        place(g, coin, CARRIED, -1);
        due(12, () -> g.count(9));
    }

    @Sentence(of = "Description, Verbs", says = "take all: each thing whose place is the room of the player and that")
    static void takeAll() {
        Game g = rooms(true, true);
        int coin = object(g, COIN, 0, 1, IN_ROOM, 0);
        int box = openBox(g, IN_ROOM, 0);
        int inside = object(g, ROPE, 0, 1, INSIDE, box);
        int fixed = object(g, BOOK, 0, 1, IN_ROOM, 0);
        int far = object(g, KEY, 0, 1, IN_ROOM, 1);
        int nowhere = object(g, KEY, RED, 1, NOWHERE, 0);
        int door = g.addThing(DOOR, GATE, 0, 1);
        g.setFlag(fixed, FIXED, true);
        g.connect(0, NORTH, 1, door);
        g.begin(0);
        says(g, "take all", "done 1");
        place(g, coin, CARRIED, -1);
        place(g, box, CARRIED, -1);
        place(g, inside, INSIDE, box);
        place(g, fixed, IN_ROOM, 0);
        place(g, far, IN_ROOM, 1);
        place(g, nowhere, NOWHERE, -1);
        place(g, door, NOWHERE, -1);
        due(1, () -> g.count(3));
        says(g, "take all", "done 0, 5 -1 0");
    }

    @Sentence(of = "Description, Verbs", says = "take all: each thing whose place is the room of the player and that")
    static void takeAllOfNothing() {
        says(emptyRoom(true), "take all", "done 0, 5 -1 0");
        says(loaded(20, 1), "take all", "done 0, 5 -1 0");
        says(loaded(19, 1), "take all. take all", "done 1, 5 -1 1");
        Game dark = rooms(false);
        object(dark, COIN, 0, 1, IN_ROOM, 0);
        int lamp = lamp(dark, 9, false, CARRIED, 0);
        dark.begin(0);
        says(dark, "take all", "done 0, 5 -1 0");
        says(dark, "light lamp. take all", "done 2");
        due(CARRIED, () -> dark.thing(lamp, 9));
        // A lit lamp that is taken with the others lights the room still.
        Game lit = rooms(false);
        lamp(lit, 9, true, IN_ROOM, 0);
        object(lit, COIN, 0, 1, IN_ROOM, 0);
        lit.begin(0);
        says(lit, "take all", "done 1");
        due(2, () -> lit.content(CARRIED, 0, -1));
    }

    @Sentence(of = "Description, Verbs", says = "take all: each thing whose place is the room of the player and that")
    static void takeAllInAscendingOrder() {
        Game g = rooms(true);
        int[] sizes = {9, 9, 9, 3, 2, 1, 1};
        for (int size : sizes) {
            object(g, COIN, 0, size, IN_ROOM, 0);
        }
        g.begin(0);
        says(g, "take all", "done 1");
        int[] places = {CARRIED, CARRIED, IN_ROOM, IN_ROOM, CARRIED, IN_ROOM, IN_ROOM};
        for (int thing = 0; thing < sizes.length; thing++) {
            final int t = thing;
            due(places[t], () -> g.thing(t, 9));
        }
        Game sixteen = rooms(true);
        for (int thing = 0; thing < 16; thing++) {
            object(sixteen, COIN, 0, 1, IN_ROOM, 0);
        }
        sixteen.begin(0);
        says(sixteen, "take all", "done 1");
        due(16, () -> sixteen.content(CARRIED, 0, -1));
        says(sixteen, "drop all", "done 1");
        due(16, () -> sixteen.content(IN_ROOM, 0, -1));
    }

    @Sentence(of = "Description, Verbs", says = "drop: 5 if it is not carried; it is in the room of the player then.")
    static void drop() {
        Game g = rooms(true, true);
        int box = openBox(g, CARRIED, 0);
        int coin = object(g, COIN, 0, 1, INSIDE, box);
        int rope = object(g, ROPE, 0, 1, CARRIED, 0);
        object(g, KEY, 0, 1, IN_ROOM, 0);
        int door = g.addThing(DOOR, GATE, 0, 1);
        g.setFlag(rope, FIXED, true);
        g.setFlag(door, OPEN, true);
        g.connect(0, NORTH, 1, door);
        g.begin(0);
        says(g, "drop key", "done 0, 5 -1 0");
        says(g, "drop coin", "done 0, 5 -1 0");
        says(g, "drop door", "done 0, 5 -1 0");
        says(g, "north. drop rope. drop box", "done 3");
        place(g, rope, IN_ROOM, 1);
        place(g, box, IN_ROOM, 1);
        place(g, coin, INSIDE, box);
        due(1, () -> g.outer(coin));
        says(g, "drop rope", "done 0, 5 -1 0");
    }

    @Sentence(of = "Description, Verbs", says = "drop all: all that are carried; 5 if there are none.")
    static void dropAll() {
        Game g = rooms(false, false);
        int box = openBox(g, CARRIED, 0);
        int coin = object(g, COIN, 0, 1, INSIDE, box);
        int rope = object(g, ROPE, 0, 1, CARRIED, 0);
        g.setFlag(rope, FIXED, true);
        g.connect(0, NORTH, 1, -1);
        g.begin(0);
        says(g, "north. drop all. drop all", "done 2, 5 -1 2");
        place(g, box, IN_ROOM, 1);
        place(g, rope, IN_ROOM, 1);
        place(g, coin, INSIDE, box);
        says(emptyRoom(true), "drop all", "done 0, 5 -1 0");
        Game one = rooms(true);
        object(one, COIN, 0, 1, CARRIED, 0);
        one.begin(0);
        says(one, "drop all. drop all", "done 1, 5 -1 1");
    }

    /** Fixed: 0 coin, 1 box; free: 2 bell, 3 book, both of no capacity, the book closed; 4 rope, 5 a tray, 6 on it. */
    private static Game puts() {
        Game g = rooms(true);
        int coin = object(g, COIN, 0, 9, IN_ROOM, 0);
        int box = holderAt(g, CONTAINER, BOX, 0, IN_ROOM, 0);
        g.setFlag(coin, FIXED, true);
        g.setFlag(box, FIXED, true);
        holderAt(g, SUPPORTER, BELL, 0, IN_ROOM, 0);
        holderAt(g, CONTAINER, BOOK, 0, IN_ROOM, 0);
        object(g, ROPE, 0, 9, CARRIED, 0);
        int tray = holderAt(g, SUPPORTER, LIGHT, 1, IN_ROOM, 0);
        object(g, KEY, 0, 1, UPON, tray);
        int door = g.addThing(DOOR, GATE, 0, 1);
        g.connect(0, NORTH, 0, door);
        g.begin(0);
        return g;
    }

    @Sentence(of = "Description, Verbs", says = "put: 10 with the first thing; 4 with the second one, if it is not a")
    static void putInTheOrderOfItsReasons() {
        String[][] texts = {
            // 10, and what comes later as well: 4, 13, 6, 7, 5.
            {"put coin in rope", "10 0"}, {"put box in box", "10 1"}, {"put coin in book", "10 0"},
            {"put coin on bell", "10 0"}, {"put door on bell", "10 7"}, {"put door in door", "10 7"},
            // 4, and 13, 6, 5, 7 as well.
            {"put bell in bell", "4 2"}, {"put book on book", "4 3"}, {"put rope on book", "4 3"},
            {"put key in lamp", "4 5"}, {"put rope in bell", "4 2"}, {"put rope in rope", "4 4"},
            {"put rope on coin", "4 0"}, {"put rope in door", "4 7"},
            // 13, and 6, 7 as well.
            {"put book in book", "13 3"}, {"put bell on bell", "13 2"},
            // 6, and 7 as well.
            {"put rope in book", "6 3"}, {"put rope in box", "6 1"},
            // 5, though there is no more room.
            {"put key on lamp", "5 -1"},
            // 7.
            {"put rope on bell", "7 2"}, {"put bell on lamp", "7 5"}, {"put rope on lamp", "7 5"}};
        for (String[] text : texts) {
            says(puts(), text[0], "done 0, " + text[1] + " 0");
        }
        Game fixedThere = puts();
        fixedThere.stop();
        fixedThere.setFlag(6, FIXED, false);
        fixedThere.setFlag(2, FIXED, true);
        fixedThere.put(6, IN_ROOM, 0);
        fixedThere.put(2, UPON, 5);
        fixedThere.begin(0);
        says(fixedThere, "put bell on lamp", "done 0, 10 2 0");
        says(fixedThere, "put key on lamp", "done 0, 7 5 0");
    }

    @Sentence(of = "Description, Verbs", says = "put: 10 with the first thing; 4 with the second one, if it is not a")
    static void putUpToTheCapacity() {
        for (int kind = CONTAINER; kind <= SUPPORTER; kind++) {
            for (int capacity = 0; capacity <= 18; capacity++) {
                Game g = rooms(true);
                int box = holderAt(g, kind, BOX, capacity, IN_ROOM, 0);
                if (kind == CONTAINER) {
                    g.setFlag(box, OPEN, true);
                }
                int rope = object(g, ROPE, 0, Math.max(1, Math.min(9, capacity)), IN_ROOM, 0);
                int coin = object(g, COIN, 0, 9, IN_ROOM, 0);
                g.begin(0);
                String how = kind == CONTAINER ? " in box" : " on box";
                says(g, "put rope" + how, capacity == 0 ? "done 0, 7 0 0" : "done 1");
                says(g, "put coin" + how, capacity < 18 ? "done 0, 7 0 0" : "done 1");
                place(g, rope, capacity == 0 ? IN_ROOM : kind, capacity == 0 ? 0 : box);
                place(g, coin, capacity < 18 ? IN_ROOM : kind, capacity < 18 ? 0 : box);
            }
        }
    }

    @Sentence(of = "Description, Verbs", says = "put: 10 with the first thing; 4 with the second one, if it is not a")
    static void putOutOfOneIntoTheOther() {
        Game g = rooms(true);
        int box = openBox(g, IN_ROOM, 0);
        int bell = holderAt(g, SUPPORTER, BELL, 9, INSIDE, box);
        int coin = object(g, COIN, 0, 9, UPON, bell);
        g.begin(0);
        // It is in the box through the bell, but not directly there.
        says(g, "put coin in box. put coin in box", "done 1, 5 -1 1");
        says(g, "put coin on bell", "done 1");
        place(g, coin, UPON, bell);
        says(g, "put bell in box", "done 0, 5 -1 0");
    }

    @Sentence(of = "Description, Verbs", says = "open and close: 4 if it is neither a container nor a door; 5; for")
    static void openAndClose() {
        for (int thing : new int[] {OBJECT, SUPPORTER, LAMP}) {
            String noun = NOUN_OF_KIND[thing];
            says(keyed(-1), "open " + noun, "done 0, 4 " + thing + " 0");
            says(keyed(-1), "close " + noun, "done 0, 4 " + thing + " 0");
        }
        for (int thing : new int[] {CONTAINER, DOOR}) {
            String noun = NOUN_OF_KIND[thing];
            says(keyed(OPEN), "open " + noun, "done 0, 5 -1 0");
            says(keyed(LOCKED), "open " + noun, "done 0, 6 " + thing + " 0");
            says(keyed(-1), "close " + noun, "done 0, 5 -1 0");
            says(keyed(LOCKED), "close " + noun, "done 0, 5 -1 0");
            Game g = keyed(-1);
            says(g, "open " + noun, "done 1");
            due(flags(OPEN), () -> g.thing(thing, 8));
            says(g, "open " + noun, "done 0, 5 -1 0");
            says(g, "close " + noun, "done 1");
            due(0, () -> g.thing(thing, 8));
            says(g, "close " + noun, "done 0, 5 -1 0");
        }
    }

    /** One of each, of which the box and the door have the coin as their key, and a flag. */
    private static Game keyed(int flag) {
        Game g = oneOfEach();
        for (int thing : new int[] {CONTAINER, DOOR}) {
            g.setKey(thing, OBJECT);
            if (flag >= 0) {
                g.setFlag(thing, flag, true);
            }
        }
        g.begin(0);
        return g;
    }

    @Sentence(of = "Description, Verbs", says = "lock and unlock: 4; 5; for lock 6 if it is open; 8 with the second")
    static void lockAndUnlock() {
        for (int thing : new int[] {OBJECT, SUPPORTER, LAMP}) {
            String noun = NOUN_OF_KIND[thing];
            says(keyed(-1), "lock " + noun + " with coin", "done 0, 4 " + thing + " 0");
            says(keyed(-1), "unlock " + noun + " with " + noun, "done 0, 4 " + thing + " 0");
        }
        for (int thing : new int[] {CONTAINER, DOOR}) {
            String noun = thing == DOOR ? " door" : " box";
            // 5, and 8 as well; 6, and 8 as well; 8.
            says(keyed(LOCKED), "lock" + noun + " with bell", "done 0, 5 -1 0");
            says(keyed(OPEN), "lock" + noun + " with bell", "done 0, 6 " + thing + " 0");
            says(keyed(OPEN), "lock" + noun + " with coin", "done 0, 6 " + thing + " 0");
            says(keyed(-1), "lock" + noun + " with bell", "done 0, 8 2 0");
            says(keyed(-1), "unlock" + noun + " with bell", "done 0, 5 -1 0");
            says(keyed(OPEN), "unlock" + noun + " with bell", "done 0, 5 -1 0");
            says(keyed(OPEN), "unlock" + noun + " with coin", "done 0, 5 -1 0");
            says(keyed(LOCKED), "unlock" + noun + " with bell", "done 0, 8 2 0");
            says(keyed(LOCKED), "unlock" + noun + " with" + noun, "done 0, 8 " + thing + " 0");
            Game g = keyed(-1);
            says(g, "lock" + noun + " with coin", "done 1");
            due(flags(LOCKED), () -> g.thing(thing, 8));
            says(g, "unlock" + noun + " with coin", "done 1");
            due(0, () -> g.thing(thing, 8));
        }
    }

    @Sentence(of = "Description, Verbs", says = "light and quench: 4 if it is no lamp; 5; for light 11.")
    static void lightAndQuench() {
        for (int thing = OBJECT; thing <= DOOR; thing++) {
            String noun = NOUN_OF_KIND[thing];
            if (thing != LAMP) {
                says(keyed(-1), "light " + noun, "done 0, 4 " + thing + " 0");
                says(keyed(-1), "quench " + noun, "done 0, 4 " + thing + " 0");
            }
        }
        for (int fuel = 0; fuel <= 3; fuel++) {
            Game g = rooms(true);
            int lamp = lamp(g, fuel, false, IN_ROOM, 0);
            g.begin(0);
            says(g, "quench lamp", "done 0, 5 -1 0");
            says(g, "light lamp", fuel == 0 ? "done 0, 11 0 0" : "done 1");
            boolean isLit = fuel > 1;
            due(isLit ? flags(LIT) : 0, () -> g.thing(lamp, 8));
            says(g, "light lamp", isLit ? "done 0, 5 -1 0" : "done 0, 11 0 0");
            says(g, "quench lamp", isLit ? "done 1" : "done 0, 5 -1 0");
            due(0, () -> g.thing(lamp, 8));
            says(g, "quench lamp", "done 0, 5 -1 0");
        }
    }

    @Sentence(of = "Description, Verbs", says = "Unless stated otherwise, the reason concerns the first thing; reason")
    static void whatTheReasonConcerns() {
        for (int i = 0; i < REASONS.length; i++) {
            final int concerned = CONCERNED[i];
            Game g = reasons();
            g.type(REASONS[i]);
            due(0, g::command);
            due(concerned, () -> g.refusal(1));
        }
        // The reason 6 with the first thing, with the second one, and with a door; 7 with the first one.
        says(keyed(LOCKED), "open box", "done 0, 6 1 0");
        says(keyed(OPEN), "lock door with coin", "done 0, 6 4 0");
        says(keyed(-1), "put coin in box", "done 0, 6 1 0");
        says(keyed(-1), "north", "done 0, 6 4 0");
        says(loaded(20, 1), "take coin", "done 0, 7 3 0");
        // The reasons 5 and 2 of several things concern none.
        says(loaded(20, 1), "drop coin", "done 0, 5 -1 0");
        says(loaded(20, 1), "drop rope", "done 0, 2 -1 0");
        says(emptyRoom(true), "take all", "done 0, 5 -1 0");
    }

    @Sentence(of = "Description, Details", says = "Taking all leaves a thing out that is too heavy, and goes on with")
    static void takingAllLeavesTheHeavyOut() {
        Game g = rooms(true);
        object(g, ROPE, 0, 9, CARRIED, 0);
        int box = openBox(g, IN_ROOM, 0);
        object(g, BELL, 0, 9, INSIDE, box);
        int key = object(g, KEY, 0, 2, INSIDE, box);
        int book = object(g, BOOK, 0, 9, IN_ROOM, 0);
        int coin = object(g, COIN, 0, 3, IN_ROOM, 0);
        int last = object(g, COIN, 0, 2, IN_ROOM, 0);
        g.begin(0);
        says(g, "take all", "done 1");
        // With what is in it, the box has the size 12.
        place(g, box, IN_ROOM, 0);
        place(g, key, INSIDE, box);
        place(g, book, CARRIED, -1);
        place(g, coin, IN_ROOM, 0);
        place(g, last, CARRIED, -1);
        due(20, () -> g.count(9));
        says(g, "take all", "done 0, 5 -1 0");
        says(g, "drop coin. drop book. take all", "done 3");
        place(g, box, IN_ROOM, 0);
        place(g, book, CARRIED, -1);
        place(g, last, CARRIED, -1);
    }

    /** A chest that is carried or not, with a bell on which to put; a rope, carried or not; a load to carry. */
    private static Game loads(int chestPlace, int ropePlace, int ropeSize, int load) {
        Game g = rooms(true);
        int chest = openBox(g, chestPlace, 0);
        holderAt(g, SUPPORTER, BELL, 30, INSIDE, chest);
        object(g, ROPE, 0, ropeSize, ropePlace, ropePlace == INSIDE ? chest : 0);
        for (int left = load; left > 0; left -= 9) {
            object(g, COIN, 0, Math.min(9, left), CARRIED, 0);
        }
        g.begin(0);
        return g;
    }

    @Sentence(of = "Description, Details", says = "Putting a thing looks at the load only if the second thing is")
    static void puttingLooksAtTheLoad() {
        // The chest and the bell have the size 2.
        says(loads(CARRIED, IN_ROOM, 9, 9), "put rope in box", "done 1");
        says(loads(CARRIED, IN_ROOM, 9, 10), "put rope in box", "done 0, 7 0 0");
        says(loads(CARRIED, IN_ROOM, 9, 9), "put rope on bell", "done 1");
        says(loads(CARRIED, IN_ROOM, 9, 10), "put rope on bell", "done 0, 7 1 0");
        says(loads(CARRIED, IN_ROOM, 1, 18), "put rope on bell", "done 0, 7 1 0");
        says(loads(CARRIED, CARRIED, 9, 9), "put rope in box. put rope on bell. put rope in box", "done 3");
        says(loads(CARRIED, INSIDE, 9, 9), "put rope on bell. put rope in box", "done 2");
        says(loads(IN_ROOM, IN_ROOM, 9, 20), "put rope in box. put rope on bell", "done 2");
        says(loads(IN_ROOM, CARRIED, 2, 18), "put rope on bell", "done 1");
        Game g = loads(CARRIED, IN_ROOM, 9, 9);
        says(g, "put rope on bell", "done 1");
        due(20, () -> g.count(9));
    }

    @Sentence(of = "Description, Details", says = "Putting a thing looks at the load only if the second thing is")
    static void puttingLooksAtTheLoadOfAll() {
        Game g = rooms(true);
        int box = openBox(g, CARRIED, 0);
        int bell = holderAt(g, SUPPORTER, BELL, 30, IN_ROOM, 0);
        object(g, COIN, 0, 9, UPON, bell);
        object(g, ROPE, 0, 9, CARRIED, 0);
        g.begin(0);
        // With the coin on it, the bell has the size 10.
        says(g, "put bell in box", "done 1");
        due(20, () -> g.count(9));
        says(g, "take bell. drop bell. take coin. drop coin", "done 4");
        g.stop();
        object(g, KEY, 0, 1, UPON, bell);
        g.begin(0);
        says(g, "put bell in box", "done 0, 7 " + box + " 0");
    }

    @Sentence(of = "Description, Details", says = "Where there is no key, nothing is the key.")
    static void noKey() {
        for (int flag : new int[] {-1, LOCKED}) {
            for (int thing = OBJECT; thing <= DOOR; thing++) {
                String noun = NOUN_OF_KIND[thing];
                Game g = oneOfEach();
                if (flag == LOCKED) {
                    g.setFlag(CONTAINER, LOCKED, true);
                    g.setFlag(DOOR, LOCKED, true);
                }
                g.begin(0);
                String verb = flag == LOCKED ? "unlock " : "lock ";
                says(g, verb + "box with " + noun, "done 0, 8 " + thing + " 0");
                says(g, verb + "door with " + noun, "done 0, 8 " + thing + " 0");
            }
        }
    }

    @Sentence(of = "Description, Details", says = "Only visible things count as carried or not.")
    static void onlyVisibleThingsCount() {
        Game g = rooms(false);
        int red = object(g, COIN, RED, 1, CARRIED, 0);
        object(g, COIN, OLD, 1, IN_ROOM, 0);
        int box = holderAt(g, CONTAINER, BOX, 9, CARRIED, 0);
        int big = object(g, COIN, BIG, 1, INSIDE, box);
        int lamp = lamp(g, 1, false, CARRIED, 0);
        g.begin(0);
        // The old coin lies in the dark, and the big one in a closed box: the red one is meant, and is carried.
        says(g, "take coin", "done 0, 5 -1 0");
        says(g, "open coin", "done 0, 4 " + red + " 0");
        says(g, "open box. take coin", "done 2");
        place(g, big, CARRIED, -1);
        says(g, "put big coin in box. close box. drop coin", "done 3");
        place(g, red, IN_ROOM, 0);
        says(g, "drop coin", "done 0, 1 -1 0");
        says(g, "light lamp", "done 1");
        due(0, () -> g.thing(lamp, 6));
    }

    @Sentence(of = "Description, Details", says = "A look that is carried out counts among the commands, but is no")
    static void aLookCounts() {
        Game g = oneOfEach();
        g.setFlag(LAMP, LIT, true);
        g.begin(0);
        List<Object> before = g.world();
        says(g, "look", "done 1");
        says(g, "look. look. look. look. look. look. look. look. look. look. look. look. look", "done 13");
        same("the world", before, g.world());
        due(0, () -> g.count(6));
        due(STATE, g::undo);
        says(g, "look. wait. look. down", "done 3, 9 -1 3");
        due(1, () -> g.count(7));
        due(1, () -> g.count(6));
        due(true, g::isReplayed);
    }

    @Sentence(of = "Description, Details", says = "A thing in a carried container is not carried itself, so it cannot")
    static void whatIsInACarriedContainer() {
        Game g = rooms(true);
        int box = openBox(g, CARRIED, 0);
        int coin = object(g, COIN, 0, 1, INSIDE, box);
        int bell = holderAt(g, SUPPORTER, BELL, 9, CARRIED, 0);
        int key = object(g, KEY, 0, 1, UPON, bell);
        g.begin(0);
        says(g, "drop coin", "done 0, 5 -1 0");
        says(g, "drop key", "done 0, 5 -1 0");
        says(g, "take coin. drop coin. take key. drop key", "done 4");
        place(g, coin, IN_ROOM, 0);
        place(g, key, IN_ROOM, 0);
    }

    @Sentence(of = "Promise 19: refusal", says = "Returns a number of the refusal of the latest call of command that")
    static void ofTheLatestCommand() {
        Game g = oneOfEach();
        g.type("down");
        due(STATE, g::command);
        due(0, () -> g.refusal(0));
        g.begin(0);
        due(0, () -> g.refusal(0));
        due(0, g::foresee);
        due(0, () -> g.refusal(0));
        due(0, g::command);
        List<Integer> refused = List.of(9, -1, 0);
        dueRefusal(g, refused);
        g.say("x");
        dueRefusal(g, refused);
        due(1 << CONTAINER, () -> g.match("box"));
        dueRefusal(g, refused);
        g.type("take coin. take coin");
        due(1, g::foresee);
        dueRefusal(g, refused);
        g.stop();
        due(STATE, g::command);
        dueRefusal(g, refused);
        g.begin(0);
        dueRefusal(g, refused);
        due(1, g::command);
        dueRefusal(g, List.of(5, -1, 1));
        g.undo();
        g.save();
        g.restore();
        dueRefusal(g, List.of(5, -1, 1));
        g.say("look");
        dueRefusal(g, List.of(0, -1, -1));
    }

    private static void dueRefusal(Game g, List<Integer> want) {
        List<Integer> got = new ArrayList<>();
        for (int what = 0; what < 3; what++) {
            got.add(g.refusal(what));
        }
        same("the refusal", want, got);
    }

    @Sentence(of = "Promise 19: refusal", says = "- `what`: 0 for the reason, 0 if no command was refused; 1 for the")
    static void whatOfTheRefusal() {
        Game none = new Game();
        dueRefusal(none, List.of(0, -1, -1));
        for (int i = 0; i < REASONS.length; i++) {
            Game g = reasons();
            g.say("wait. wait. " + REASONS[i] + ". wait");
            dueRefusal(g, List.of(i + 1, CONCERNED[i], 2));
        }
        // The last thing that there can be, and the last command that a text can have.
        Game last = rooms(true);
        for (int thing = 0; thing < 16; thing++) {
            object(last, BOX + thing / 15, 0, 1, IN_ROOM, 0);
        }
        last.begin(0);
        last.say("open lamp");
        dueRefusal(last, List.of(4, 15, 0));
        Game row = manyRooms(2);
        row.connect(0, UP, 0, -1);
        row.connect(0, DOWN, 1, -1);
        row.begin(0);
        row.say("up. up. up. up. up. up. up. up. up. up. up. up. up. up. up. up. up. up. down");
        dueRefusal(row, List.of(0, -1, -1));
        Game twenty = rooms(true);
        twenty.connect(0, UP, 0, -1);
        int lamp = lamp(twenty, 9, false, CARRIED, 0);
        twenty.addDaemon(CLOSER, door(twenty), 19, true);
        twenty.connect(0, UP, 0, lamp + 1);
        twenty.begin(0);
        twenty.say("up. up. up. up. up. up. up. up. up. up. up. up. up. up. up. up. up. up. up. up");
        dueRefusal(twenty, List.of(6, lamp + 1, 19));
    }

    private static int door(Game g) {
        int door = g.addThing(DOOR, GATE, 0, 1);
        g.setFlag(door, OPEN, true);
        return door;
    }

    @Sentence(of = "Promise 19: refusal", says = "Throws `IllegalArgumentException` if what is not from 0 to 2")
    static void refusalOfWhat() {
        refusedBeside(0, 2, ARGUMENT, Edges::made, (g, wrong) -> g.refusal(wrong));
        refusedBeside(0, 2, ARGUMENT, Edges::played, (g, wrong) -> g.refusal(wrong));
        due(0, () -> made().refusal(0));
        due(-1, () -> made().refusal(2));
        due(9, () -> played().refusal(0));
    }
}
