import java.lang.reflect.InvocationTargetException;
import java.lang.reflect.Method;
import java.util.ArrayList;
import java.util.Arrays;
import java.util.HashMap;
import java.util.List;
import java.util.Map;

/** Long runs of calls, each answered by the program and by the model, from a fixed row of numbers. */
public final class RandomRunsTest {
    private static final int CALLS = 512;
    private static final String[] NOUNS = {"box", "lamp", "key", "door", "coin", "rope", "book", "bell"};
    private static final String[] ADJECTIVES = {"", "", "red ", "old ", "big "};
    private static final String[] WAYS = {"north", "east", "south", "west", "up", "down"};

    private static final Map<String, Method> PROGRAM = methods(AdventureWorld.class);
    private static final Map<String, Method> MODEL = methods(Model.class);

    private long seed;
    private AdventureWorld world = new AdventureWorld();
    private Model model = new Model();
    private final List<String> calls = new ArrayList<>();
    private boolean differs = false;
    static final Map<String, Integer> seen = new HashMap<>();

    private RandomRunsTest(long seed) {
        this.seed = seed;
    }

    public static void main(String[] args) {
        int runs = args.length > 0 ? Integer.parseInt(args[0]) : 500;
        int different = 0;
        for (int run = 0; run < runs && different < 3; run++) {
            RandomRunsTest test = new RandomRunsTest(run * 7919L + 17);
            test.run();
            if (test.differs) {
                different++;
                System.out.println("run " + run);
                test.calls.forEach(c -> System.out.println("  " + c));
            }
        }
        if (args.length > 1) {
            seen.entrySet().stream().sorted(Map.Entry.comparingByKey()).forEach(System.out::println);
        }
        System.out.println("  " + runs + " runs, " + different + " different");
        if (different > 0) {
            System.exit(1);
        }
    }

    private static Map<String, Method> methods(Class<?> type) {
        Map<String, Method> all = new HashMap<>();
        for (Method m : type.getDeclaredMethods()) {
            if (java.lang.reflect.Modifier.isPublic(m.getModifiers())) {
                m.setAccessible(true);
                all.put(m.getName(), m);
            }
        }
        return all;
    }

    private int below(int bound) {
        seed = seed * 6364136223846793005L + 1442695040888963407L;
        return (int) ((seed >>> 33) % bound);
    }

    /** A number from least to greatest, or once in a while one out of it. */
    private int about(int least, int greatest) {
        if (below(30) == 0) {
            int[] odd = {least - 1, greatest + 1, -1, -2, Integer.MIN_VALUE, Integer.MAX_VALUE, 1000};
            return odd[below(odd.length)];
        }
        return greatest < least ? least : least + below(greatest - least + 1);
    }

    private static Object answer(Map<String, Method> methods, Object on, String name, Object[] args) {
        try {
            return methods.get(name).invoke(on, args);
        } catch (InvocationTargetException e) {
            return e.getCause().getClass();
        } catch (IllegalAccessException e) {
            throw new AssertionError(e);
        }
    }

    private Object call(String name, Object... args) {
        if (differs || calls.size() >= CALLS) {
            return -1;
        }
        Object got = answer(PROGRAM, world, name, args);
        Object want = answer(MODEL, model, name, args);
        calls.add(name + Arrays.toString(args) + " = " + got);
        String kind = want instanceof Class ? ((Class<?>) want).getSimpleName() : "value";
        seen.merge(name + " " + kind, 1, Integer::sum);
        if (!want.equals(got)) {
            differs = true;
            calls.add("due is " + want);
        }
        return got;
    }

    private int things() { return model.count(1); }

    private int rooms() { return model.count(0); }

    private void run() {
        int rounds = below(4) == 0 ? 2 : 1;
        for (int i = 0; i < rounds && !differs; i++) {
            furnish();
            build(below(60));
            call("begin", about(0, rooms() - 1));
            play(CALLS / rounds);
        }
    }

    /** A world in which much can be done: things in open and in transparent containers, daemons, lamps. */
    private void furnish() {
        for (int i = 1 + below(4); i > 0; i--) call("addRoom", below(4) > 0);
        for (int i = 4 + below(8); i > 0; i--) addThing();
        for (int i = 4 + below(6); i > 0; i--) {
            call("connect", below(rooms()), below(6), below(rooms()), below(3) == 0 ? ofKind("4") : -1);
        }
        for (int t = 0; t < things(); t++) {
            int kind = model.thing(t, 0);
            if (kind == 1 || kind == 2) call("setCapacity", t, 5 + below(26));
            if (kind == 1) call("setFlag", t, below(3) == 0 ? 3 : 1, true);
            if (kind == 3) call("setFuel", t, 1 + below(12));
            if (kind != 4) call("put", t, below(3) == 0 ? 3 : 0, below(rooms()));
        }
        for (int i = 0; i < things() / 2; i++) {
            int holder = ofKind("12");
            call("put", below(things()), isThing(holder) ? model.thing(holder, 0) : 1, holder);
        }
        for (int i = below(7); i > 0; i--) {
            int kind = below(4);
            call("addDaemon", kind, ofKind(new String[] {"14", "0123", "1", "3"}[kind]), 1 + below(3), below(6) == 0);
        }
    }

    private boolean isThing(int t) { return 0 <= t && t < things(); }

    private void build(int steps) {
        for (int i = 0; i < steps && !differs; i++) {
            int t = about(0, things() - 1);
            switch (below(14)) {
                case 0: call("addRoom", below(2) == 0); break;
                case 1: addThing(); break;
                case 2: case 3: case 4:
                    call("connect", about(0, rooms() - 1), about(0, 5), below(8) == 0 ? -1 : about(0, rooms() - 1),
                            below(2) == 0 ? -1 : ofKind("4"));
                    break;
                case 5: call("setCapacity", ofKind("12"), about(0, 30)); break;
                case 6: call("setFlag", below(4) == 0 ? t : ofKind("14"), about(0, 4), below(3) > 0); break;
                case 7: call("setFlag", t, about(0, 4), below(3) > 0); break;
                case 8: call("setKey", ofKind("14"), about(-1, things() - 1)); break;
                case 9: call("setFuel", ofKind("3"), about(0, below(2) == 0 ? 4 : 99)); break;
                case 10: call("setWorth", t, about(0, 9)); break;
                case 11: call("put", t, about(0, 4), below(2) == 0 ? about(0, rooms() - 1) : ofKind("12")); break;
                case 12: call("put", t, below(2) == 0 ? 0 : 3, about(0, rooms() - 1)); break;
                default: call("addDaemon", about(0, 3), ofKind(new String[] {"14", "0123", "1", "3"}[below(4)]),
                        below(2) == 0 ? about(1, 3) : about(1, 20), below(4) == 0);
            }
            if (below(10) == 0) query();
            if (below(60) == 0) call("save");
            if (below(90) == 0) call("restore");
        }
    }

    private void addThing() {
        call("addThing", about(0, 4), about(0, below(2) == 0 ? 3 : 7), about(0, 3), about(1, below(2) == 0 ? 3 : 9));
    }

    /** A thing of one of some kinds, mostly. */
    private int ofKind(String kinds) {
        for (int i = 0; i < 20; i++) {
            int t = about(0, things() - 1);
            if (!isThing(t) || kinds.contains("" + model.thing(t, 0))) {
                return t;
            }
        }
        return 0;
    }

    private void play(int steps) {
        for (int i = 0; i < steps && !differs; i++) {
            int what = below(40);
            if (what < 25) {
                speak();
            } else if (what < 33) {
                query();
            } else if (what < 35) {
                call("undo");
            } else if (what < 36) {
                call("isReplayed");
            } else if (what < 37) {
                call("outerLater", about(0, things() - 1), about(0, 30));
            } else if (what == 37) {
                call(below(3) == 0 ? "restore" : "save");
            } else if (what == 38 && below(6) == 0) {
                call("stop");
                return;
            } else if (what == 39) {
                build(1);
            }
        }
        call("stop");
    }

    private String phrase() {
        if (things() > 0 && below(6) > 0) {
            int t = below(things());
            for (int i = 0; i < 8 && !(model.count(3) >= 0 && model.isVisible(t)); i++) {
                t = below(things());
            }
            String[] adjectives = {"", "red ", "old ", "big "};
            return (below(2) == 0 ? adjectives[model.thing(t, 2)] : "") + NOUNS[model.thing(t, 1)];
        }
        return ADJECTIVES[below(5)] + NOUNS[below(8)];
    }

    /** A command that is carried out, or refused for some reason, as the world is now, if one is found. */
    private String oneCommand() {
        int wanted = below(3) > 0 ? 0 : 1 + below(13);
        String command = anyCommand();
        for (int i = below(80); i > 0 && model.reasonFor(command) != wanted; i--) {
            command = anyCommand();
        }
        return command;
    }

    private String anyCommand() {
        switch (below(16)) {
            case 0: return "look";
            case 1: return "wait";
            case 2: case 3: return (below(2) == 0 ? "go " : "") + WAYS[below(6)];
            case 4: return below(3) > 0 ? "take all" : "drop all";
            case 5: case 6: return "take " + phrase();
            case 7: return "drop " + phrase();
            case 8: return "open " + phrase();
            case 9: return "close " + phrase();
            case 10: return "light " + phrase();
            case 11: return "quench " + phrase();
            case 12: return "lock " + phrase() + " with " + phrase();
            case 13: return "unlock " + phrase() + " with " + phrase();
            default: return "put " + phrase() + (below(2) == 0 ? " in " : " on ") + phrase();
        }
    }

    private void speak() {
        boolean isPhrase = below(12) == 0;
        StringBuilder text = new StringBuilder(isPhrase ? phrase() : oneCommand());
        int many = isPhrase ? 1 : below(3) == 0 ? 12 : 3;
        boolean waits = below(3) == 0;
        for (int i = below(many); i > 0; i--) {
            String next = waits ? "wait" : oneCommand();
            if (text.length() + 2 + next.length() <= 80 || below(8) == 0) text.append(". ").append(next);
        }
        if (below(8) == 0 && text.length() > 0) {
            int at = below(text.length());
            switch (below(4)) {
                case 0: text.setLength(at); break;
                case 1: text.setCharAt(at, (char) (32 + below(95))); break;
                case 2: text.deleteCharAt(at); break;
                default: text.insert(at, " .aeiklnoprtuwx".charAt(below(15)));
            }
        }
        for (int i = 0; i < text.length(); i += 4) {
            call("append", Check.packed(text.substring(i, Math.min(i + 4, text.length()))));
        }
        if (below(25) == 0) call("append", below(2) == 0 ? below(1 << 24) * 256 : about(0, 3));
        if (below(3) == 0) call("foresee");
        call(isPhrase != (below(20) == 0) ? "matching" : "command");
        seen.merge("reason " + model.refusal(0), 1, Integer::sum);
        seen.merge("events " + model.count(8) / 10, 1, Integer::sum);
        seen.merge("turns " + Math.min(20, model.count(7)), 1, Integer::sum);
        for (int e = 0; e < model.count(8); e++) seen.merge("event kind " + model.event(e) / 100, 1, Integer::sum);
        if (below(2) == 0) call("faultPosition");
        for (int i = 0; i < 3; i++) if (below(2) == 0) call("refusal", i);
        if (below(10) == 0) call("refusal", about(0, 2));
    }

    private void query() {
        int t = about(0, things() - 1);
        int r = about(0, rooms() - 1);
        switch (below(21)) {
            case 0: call("thing", t, about(0, 11)); break;
            case 1: call("exit", r, about(0, 5)); break;
            case 2: call("door", r, about(0, 5)); break;
            case 3: call("isLit", r); break;
            case 4: call("isVisible", t); break;
            case 5: call("isReachable", t); break;
            case 6:
                int place = about(0, 4);
                call("content", place, place == 0 ? r : t, about(-1, 4));
                break;
            case 7: call("outer", t); break;
            case 8: call("distance", r, about(0, rooms() - 1)); break;
            case 9: call("worth", below(3) == 0 ? -1 : r); break;
            case 10: call("litShare"); break;
            case 11: call("meanSize"); break;
            case 12: case 13: call("daemon", about(0, model.count(2) - 1), about(0, 5)); break;
            case 14: case 15: call("event", about(0, model.count(8) - 1)); break;
            case 16: call("letter", about(0, 7), about(0, 4)); break;
            case 17: case 18: call("thing", t, 8 + below(4)); break;
            default: call("count", about(0, 9));
        }
    }
}
