import java.lang.reflect.InvocationTargetException;
import java.lang.reflect.Method;
import java.util.Arrays;
import java.util.Comparator;
import java.util.HashSet;
import java.util.Set;

/**
 * Each sentence of the document with its own tests: runs all tests that quote one, and looks whether a quoted sentence
 * does not stand there, or a sentence that names a boundary case has no test.
 */
public final class SentencesTest {
    private static final Class<?>[] TESTS = {MakingEdges.class, ThingsEdges.class, SightEdges.class, TextEdges.class,
        VerbEdges.class, TurnEdges.class, AskingEdges.class, SnapshotEdges.class};

    /** Sentences without a boundary of their own: what they name has its bounds in another sentence of its promise. */
    private static final Set<String> WITHOUT_BOUNDARY = Set.of(
            "A world of rooms and things for a game that is played by typed commands: nouns and adjectives, containers "
                    + "and supporters, doors and locks, light and darkness, what can be seen and reached, a grammar with "
                    + "fault positions, reasons for what is refused, turns in which daemons act and lamps burn down, a "
                    + "replay, undo, and a snapshot.",
            "The constructor and the methods follow, a promise each: the signature, then what it does.",
            "- `room`: the room", "- `from`: a room", "- `to`: a room", "- `direction`: the direction",
            "- `kind`: the kind", "- `noun`: the noun", "- `size`: the size", "- `thing`: the thing",
            "- `capacity`: the capacity", "- `flag`: the flag", "- `on`: whether it has the flag then",
            "- `fuel`: the fuel", "- `worth`: the worth", "- `place`: the place", "- `period`: the period",
            "- `packed`: the number", "- `daemon`: the daemon", "Returns the number.", "Returns the room.",
            "Returns whether it is lit.", "Returns whether it is.", "Returns the thing or the number.",
            "Returns the sum.", "Returns an event.", "Returns the letter.", "Returns the count.");

    public static void main(String[] args) throws Exception {
        Document document = new Document();
        Set<Integer> quoted = new HashSet<>();
        for (Class<?> tests : TESTS) {
            Method[] methods = tests.getDeclaredMethods();
            Arrays.sort(methods, Comparator.comparing(Method::getName));
            for (Method m : methods) {
                Sentence sentence = m.getAnnotation(Sentence.class);
                if (sentence != null) {
                    int index = document.indexOf(sentence.of(), sentence.says());
                    Check.dueValue(m + " quotes one sentence of the document", true, index >= 0);
                    quoted.add(index);
                    run(m, sentence);
                }
            }
        }
        for (int i = 0; i < document.size(); i++) {
            boolean isNeeded = !WITHOUT_BOUNDARY.contains(document.sentence(i));
            String told = document.place(i) + ", \"" + document.sentence(i) + "\"";
            Check.dueValue("tests that quote " + told, isNeeded, quoted.contains(i));
        }
        Check.end();
    }

    private static void run(Method test, Sentence sentence) throws IllegalAccessException {
        Edges.beginTest(sentence);
        test.setAccessible(true);
        try {
            test.invoke(null);
        } catch (InvocationTargetException e) {
            Check.dueValue(test + " at " + Game.latestCall(), "an end", String.valueOf(e.getCause()));
        }
    }
}
