import java.util.List;
import java.util.concurrent.Callable;

/** What the tests have in common: answers that are due, texts, and pictures of a whole world. */
final class Check {
    static final Class<IndexOutOfBoundsException> INDEX = IndexOutOfBoundsException.class;
    static final Class<IllegalArgumentException> ARGUMENT = IllegalArgumentException.class;
    static final Class<IllegalStateException> STATE = IllegalStateException.class;
    static final Class<UnsupportedOperationException> KIND = UnsupportedOperationException.class;
    static final Class<ArithmeticException> ARITHMETIC = ArithmeticException.class;
    static final Class<java.util.NoSuchElementException> MISSING = java.util.NoSuchElementException.class;

    private static int checks = 0;
    private static int wrong = 0;

    private Check() {
    }

    /** The answer of a call: its value, or the class of what it throws. */
    static Object answer(Callable<?> call) {
        try {
            return call.call();
        } catch (Exception e) {
            return e.getClass();
        }
    }

    static void due(String call, Object want, Callable<?> got) {
        dueValue(call, want, answer(got));
    }

    static void dueValue(String call, Object want, Object got) {
        checks++;
        if (!want.equals(got)) {
            wrong++;
            System.out.println(call + " answered " + got + ", due is " + want);
        }
    }

    /** A call that must throw and leave the world as it is. */
    static void refused(String call, Game world, Class<?> want, Callable<?> got) {
        List<Object> before = picture(world);
        due(call, want, got);
        dueValue("the world after " + call, before, picture(world));
    }

    static void end() {
        System.out.println("  " + checks + " checks, " + wrong + " wrong");
        if (wrong != 0) {
            System.exit(1);
        }
    }

    static int packed(String text) {
        int number = 0;
        for (char c : text.toCharArray()) {
            number = number << 8 | c;
        }
        return number;
    }

    static void type(Game world, String text) {
        world.type(text);
    }

    /** Types a text of commands: how many are carried out, and the refusal, "done 2" or "done 1, 7 3 1". */
    static String say(Game world, String text) {
        try {
            return world.say(text);
        } catch (IllegalStateException e) {
            return "not played";
        }
    }

    static void says(Game world, String text, String want) {
        dueValue("\"" + text + "\"", want, say(world, text));
    }

    /** Everything of the world itself that the calls of the face tell. */
    static List<Object> worldPicture(Game world) {
        return world.twin().world();
    }

    /** The world, and what does not belong to it. */
    static List<Object> picture(Game world) {
        return world.twin().picture();
    }
}
