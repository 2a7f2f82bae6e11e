import java.util.ArrayList;
import java.util.List;
import java.util.concurrent.Callable;
import java.util.function.Supplier;

/** What the tests of the boundary cases have in common. Each of them is about one sentence of the document. */
abstract class Edges {
    static final int MIN = Integer.MIN_VALUE;
    static final int MAX = Integer.MAX_VALUE;

    static final int OBJECT = 0;
    static final int CONTAINER = 1;
    static final int SUPPORTER = 2;
    static final int LAMP = 3;
    static final int DOOR = 4;

    // The nouns; the lamp and the door are kinds already.
    static final int BOX = 0;
    static final int LIGHT = 1;
    static final int KEY = 2;
    static final int GATE = 3;
    static final int COIN = 4;
    static final int ROPE = 5;
    static final int BOOK = 6;
    static final int BELL = 7;

    static final int RED = 1;
    static final int OLD = 2;
    static final int BIG = 3;

    static final int FIXED = 0;
    static final int OPEN = 1;
    static final int LOCKED = 2;
    static final int TRANSPARENT = 3;
    static final int LIT = 4;

    static final int IN_ROOM = 0;
    static final int INSIDE = 1;
    static final int UPON = 2;
    static final int CARRIED = 3;
    static final int NOWHERE = 4;

    static final int NORTH = 0;
    static final int EAST = 1;
    static final int SOUTH = 2;
    static final int WEST = 3;
    static final int UP = 4;
    static final int DOWN = 5;

    static final int CLOSER = 0;
    static final int MOVER = 1;
    static final int GATHERER = 2;
    static final int SWITCHER = 3;

    static final Class<IndexOutOfBoundsException> INDEX = Check.INDEX;
    static final Class<IllegalArgumentException> ARGUMENT = Check.ARGUMENT;
    static final Class<IllegalStateException> STATE = Check.STATE;
    static final Class<UnsupportedOperationException> KIND = Check.KIND;
    static final Class<ArithmeticException> ARITHMETIC = Check.ARITHMETIC;
    static final Class<java.util.NoSuchElementException> MISSING = Check.MISSING;

    private static String about = "";

    /** What is done with a game. */
    interface Use {
        Object in(Game game) throws Exception;
    }

    /** What is done with a game and a number that may be wrong. */
    interface NumberedUse {
        Object in(Game game, int number) throws Exception;
    }

    static void beginTest(Sentence sentence) {
        about = sentence.of() + ", \"" + sentence.says() + "\": ";
    }

    static void due(Object want, Callable<?> call) {
        Object got = Check.answer(call);
        Check.dueValue(about + Game.latestCall(), want, got);
    }

    static void same(String what, Object want, Object got) {
        Check.dueValue(about + what, want, got);
    }

    static void says(Game game, String text, String want) {
        due(want, () -> game.say(text));
    }

    static void counts(Game game, int... want) {
        for (int what = 0; what < want.length; what++) {
            final int n = what;
            due(want[n], () -> game.count(n));
        }
    }

    /** The flags of a thing as a set. */
    static int flags(int... flags) {
        int set = 0;
        for (int flag : flags) {
            set |= 1 << flag;
        }
        return set;
    }

    static Game rooms(boolean... light) {
        Game g = new Game();
        for (boolean isLight : light) {
            g.addRoom(isLight);
        }
        return g;
    }

    static Game manyRooms(int rooms) {
        return rooms(new boolean[rooms]);
    }

    static int holder(Game g, int kind, int noun, int size, int capacity) {
        int holder = g.addThing(kind, noun, 0, size);
        g.setCapacity(holder, capacity);
        return holder;
    }

    /** An open container of the size 1, called box, with the greatest capacity. */
    static int openBox(Game g, int place, int target) {
        int box = holder(g, CONTAINER, BOX, 1, 30);
        g.setFlag(box, OPEN, true);
        g.put(box, place, target);
        return box;
    }

    static int object(Game g, int noun, int size, int place, int target) {
        int object = g.addThing(OBJECT, noun, 0, size);
        g.put(object, place, target);
        return object;
    }

    static int lamp(Game g, int fuel, boolean isLit, int place, int target) {
        int lamp = g.addThing(LAMP, LIGHT, 0, 1);
        g.setFuel(lamp, fuel);
        g.setFlag(lamp, LIT, isLit);
        g.put(lamp, place, target);
        return lamp;
    }

    static void waits(Game g, int turns) {
        for (int done = 0; done < turns; done++) {
            g.append(Check.packed("wait"));
            g.command();
        }
    }

    /**
     * Two rooms with a door between them, and one thing of each kind whose number is its kind: a coin, a box, a bell,
     * a lamp and a door. It is not played.
     */
    static Game oneOfEach() {
        Game g = rooms(true, false);
        furnish(g);
        return g;
    }

    /** The same, with a text that is begun, and with a snapshot of two empty rooms. */
    static Game made() {
        Game g = rooms(true, false);
        g.save();
        furnish(g);
        g.type("loo");
        return g;
    }

    private static void furnish(Game g) {
        int[] nouns = {COIN, BOX, BELL, LIGHT, GATE};
        for (int kind = OBJECT; kind <= DOOR; kind++) {
            g.addThing(kind, nouns[kind], 0, kind + 1);
        }
        for (int thing = OBJECT; thing < DOOR; thing++) {
            g.put(thing, IN_ROOM, 0);
        }
        g.setCapacity(CONTAINER, 9);
        g.setCapacity(SUPPORTER, 9);
        g.setFuel(LAMP, 9);
        g.connect(0, NORTH, 1, DOOR);
        g.connect(1, SOUTH, 0, -1);
        g.addDaemon(MOVER, OBJECT, 2, false);
    }

    /** The same, played for some turns, with a refusal, a fault, and a snapshot of an earlier turn. */
    static Game played() {
        Game g = made();
        g.begin(0);
        g.say("k. light lamp. open door. north. down");
        g.save();
        g.say("wait. wait. down");
        g.say("x");
        g.type("loo");
        return g;
    }

    private static Object undoAll(Game g) {
        List<Object> all = new ArrayList<>();
        while (g.count(6) > 0) {
            all.add(g.undo());
            all.add(g.count(4));
        }
        all.add(Check.answer(g::undo));
        all.add(g.picture());
        return all;
    }

    private static Object bringBack(Game g) {
        List<Object> all = new ArrayList<>();
        all.add(Check.answer(g::restore));
        all.add(Check.answer(g::isReplayed));
        all.add(g.picture());
        return all;
    }

    private static Object stopPlay(Game g) {
        List<Object> all = new ArrayList<>();
        all.add(Check.answer(g::stop));
        all.add(g.picture());
        return all;
    }

    private static Object readOn(Game g) {
        List<Object> all = new ArrayList<>();
        all.add(Check.answer(() -> g.append('k')));
        all.add(Check.answer(g::foresee));
        all.add(Check.answer(g::command));
        all.add(Check.answer(() -> g.match("box")));
        all.add(g.picture());
        return all;
    }

    private static Object playOn(Game g) {
        List<Object> all = new ArrayList<>();
        all.add(Check.answer(g::isReplayed));
        all.add(Check.answer(() -> g.begin(0)));
        all.add(Check.answer(g::command));
        all.add(Check.answer(() -> g.say("wait. wait. wait")));
        all.add(g.world());
        return all;
    }

    /** Ways to look into all that a call may not have changed, each for a game of its own. */
    private static final Use[] VIEWS = {Game::picture, Edges::undoAll, Edges::bringBack, Edges::stopPlay,
        Edges::readOn, Edges::playOn};

    /** A call that must throw this, and leave all as it is: as it is in a game in which it was not called. */
    static void refused(Class<?> want, Supplier<Game> maker, Use call) {
        for (Use view : VIEWS) {
            Game touched = maker.get();
            Game untouched = maker.get();
            due(want, () -> call.in(touched));
            String name = Game.latestCall();
            Object seen = Check.answer(() -> view.in(touched));
            Object expected = Check.answer(() -> view.in(untouched));
            same("all after " + name, expected, seen);
        }
    }

    /** Numbers beside a range, far from it, and such as a number that is cut would bring into it. */
    static void refusedBeside(int least, int greatest, Class<?> want, Supplier<Game> maker, NumberedUse call) {
        int[] numbers = {least - 1, greatest + 1, MIN, MAX, least + 256, greatest - 256, least + 65536,
            greatest - 65536, least ^ MIN, greatest + 32};
        for (int number : numbers) {
            if (number < least || number > greatest) {
                refused(want, maker, g -> call.in(g, number));
            }
        }
    }
}
