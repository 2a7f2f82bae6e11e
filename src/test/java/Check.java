import java.util.ArrayList;
import java.util.List;
import java.util.concurrent.Callable;

/** What the tests have in common: answers that are due, texts, and pictures of a whole world. */
final class Check {
    static final Class<IndexOutOfBoundsException> INDEX = IndexOutOfBoundsException.class;
    static final Class<IllegalArgumentException> ARGUMENT = IllegalArgumentException.class;
    static final Class<IllegalStateException> STATE = IllegalStateException.class;
    static final Class<UnsupportedOperationException> KIND = UnsupportedOperationException.class;
    static final Class<ArithmeticException> ARITHMETIC = ArithmeticException.class;
    static final Class<java.util.NoSuchElementException> MISSING = java.util.NoSuchElementException.class;

    private static int checks = 0;
    private static int wrong = 0;

    private Check() {
    }

    /** The answer of a call: its value, or the class of what it throws. */
    static Object answer(Callable<?> call) {
        try {
            return call.call();
        } catch (Exception e) {
            return e.getClass();
        }
    }

    static void due(String call, Object want, Callable<?> got) {
        dueValue(call, want, answer(got));
    }

    static void dueValue(String call, Object want, Object got) {
        checks++;
        if (!want.equals(got)) {
            wrong++;
            System.out.println(call + " answered " + got + ", due is " + want);
        }
    }

    /** A call that must throw and leave the world as it is. */
    static void refused(String call, AdventureWorld world, Class<?> want, Callable<?> got) {
        List<Object> before = picture(world);
        due(call, want, got);
        dueValue("the world after " + call, before, picture(world));
    }

    static void end() {
        System.out.println("  " + checks + " checks, " + wrong + " wrong");
        if (wrong != 0) {
            System.exit(1);
        }
    }

    static int packed(String text) {
        int number = 0;
        for (char c : text.toCharArray()) {
            number = number << 8 | c;
        }
        return number;
    }

    static void type(AdventureWorld world, String text) {
        for (int i = 0; i < text.length(); i += 4) {
            world.append(packed(text.substring(i, Math.min(i + 4, text.length()))));
        }
    }

    /** Types a text of commands: how many are carried out, and the refusal, "done 2" or "done 1, 7 3 1". */
    static String say(AdventureWorld world, String text) {
        type(world, text);
        try {
            int done = world.command();
            String refusal = world.refusal(0) + " " + world.refusal(1) + " " + world.refusal(2);
            return "done " + done + (refusal.equals("0 -1 -1") ? "" : ", " + refusal);
        } catch (IllegalArgumentException e) {
            return "fault " + world.faultPosition();
        } catch (IllegalStateException e) {
            return "not played";
        }
    }

    static void says(AdventureWorld world, String text, String want) {
        dueValue("\"" + text + "\"", want, say(world, text));
    }

    /** Everything of the world itself that the calls of the face tell. */
    static List<Object> worldPicture(AdventureWorld world) {
        List<Object> all = new ArrayList<>();
        for (int what : new int[] {0, 1, 2, 3, 4, 7, 8, 9}) {
            all.add(world.count(what));
        }
        for (int room = 0; room < world.count(0); room++) {
            final int r = room;
            for (int way = 0; way < 6; way++) {
                final int w = way;
                all.add(answer(() -> world.exit(r, w)));
                all.add(answer(() -> world.door(r, w)));
            }
            all.add(world.isLit(r));
            all.add(world.worth(r));
        }
        for (int thing = 0; thing < world.count(1); thing++) {
            final int t = thing;
            for (int what = 0; what < 12; what++) {
                all.add(world.thing(t, what));
            }
            all.add(world.outer(t));
            all.add(answer(() -> world.isVisible(t)));
            all.add(answer(() -> world.isReachable(t)));
        }
        for (int daemon = 0; daemon < world.count(2); daemon++) {
            for (int what = 0; what < 6; what++) {
                all.add(world.daemon(daemon, what));
            }
        }
        for (int event = 0; event < world.count(8); event++) {
            all.add(world.event(event));
        }
        return all;
    }

    /** The world, and what does not belong to it. */
    static List<Object> picture(AdventureWorld world) {
        List<Object> all = worldPicture(world);
        all.add(world.count(5));
        all.add(world.count(6));
        all.add(world.faultPosition());
        for (int what = 0; what < 3; what++) {
            all.add(world.refusal(what));
        }
        return all;
    }
}
