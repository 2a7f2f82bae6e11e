import java.lang.reflect.Field;
import java.lang.reflect.Method;
import java.lang.reflect.Modifier;
import java.nio.file.DirectoryStream;
import java.nio.file.Files;
import java.nio.file.Path;
import java.util.ArrayList;
import java.util.Arrays;
import java.util.Collections;
import java.util.HashSet;
import java.util.List;
import java.util.Set;
import java.util.regex.Matcher;
import java.util.regex.Pattern;

/** The face of the class as ../shared/DOC.md has it, and the rules of ../shared/LANGUAGE.md that can be read off. */
public final class FaceTest {
    private static final Path DOC = Path.of("../shared/DOC.md");
    private static final Path PROGRAM = Path.of("src/main/java/AdventureWorld.java");

    public static void main(String[] args) throws Exception {
        face();
        members();
        source();
        testsCountTheirCalls();
        Check.end();
    }

    private static String text(Method m) {
        List<String> types = new ArrayList<>();
        for (Class<?> type : m.getParameterTypes()) {
            types.add(type.getSimpleName());
        }
        List<String> thrown = new ArrayList<>();
        for (Class<?> type : m.getExceptionTypes()) {
            thrown.add(type.getSimpleName());
        }
        return m.getReturnType().getSimpleName() + " " + m.getName() + types + " " + thrown;
    }

    /** The methods of the document, with their types and exceptions. */
    private static List<String> documented() throws Exception {
        List<String> all = new ArrayList<>();
        Pattern method = Pattern.compile("    public (\\w+) (\\w+)\\((.*?)\\)( throws (.*))?;");
        for (String line : Files.readAllLines(DOC)) {
            Matcher m = method.matcher(line);
            if (m.matches()) {
                List<String> types = new ArrayList<>();
                for (String parameter : m.group(3).isEmpty() ? new String[0] : m.group(3).split(", ")) {
                    types.add(parameter.split(" ")[0]);
                }
                String[] thrown = m.group(5) == null ? new String[0] : m.group(5).split(", ");
                all.add(m.group(1) + " " + m.group(2) + types + " " + Arrays.asList(thrown));
            }
        }
        Collections.sort(all);
        return all;
    }

    private static void face() throws Exception {
        List<String> own = new ArrayList<>();
        Set<String> names = new HashSet<>();
        for (Method m : AdventureWorld.class.getDeclaredMethods()) {
            if (!Modifier.isPrivate(m.getModifiers())) {
                own.add(text(m));
                names.add(m.getName());
                Check.dueValue(m + " is public", true, Modifier.isPublic(m.getModifiers()));
            }
        }
        Collections.sort(own);
        Check.dueValue("39 methods", 39, own.size());
        Check.dueValue("the face", documented(), own);
        Check.dueValue("one constructor", 1, AdventureWorld.class.getDeclaredConstructors().length);
        Check.dueValue("a final class", true, Modifier.isFinal(AdventureWorld.class.getModifiers()));
        for (Class<?> c : classes()) {
            for (Method m : c.getDeclaredMethods()) {
                boolean isFace = c == AdventureWorld.class && Modifier.isPublic(m.getModifiers());
                Check.dueValue(m + " has a name of its own", true, isFace || !names.contains(m.getName()));
                Check.dueValue(m + " has few parameters", true, m.getParameterCount() <= 7);
            }
        }
    }

    private static List<Class<?>> classes() {
        List<Class<?>> all = new ArrayList<>(Arrays.asList(AdventureWorld.class.getDeclaredClasses()));
        all.add(AdventureWorld.class);
        return all;
    }

    private static void members() {
        Check.dueValue("few classes", true, classes().size() <= 12);
        for (Class<?> c : classes()) {
            int fields = 0;
            for (Field f : c.getDeclaredFields()) {
                int how = f.getModifiers();
                Check.dueValue(f + ": static is final", true, !Modifier.isStatic(how) || Modifier.isFinal(how));
                Check.dueValue(f + ": hidden", true, c != AdventureWorld.class || Modifier.isPrivate(how));
                fields += Modifier.isStatic(how) ? 0 : 1;
            }
            Check.dueValue(c + " has few fields", true, fields <= 20);
            boolean isInside = c != AdventureWorld.class;
            boolean isHidden = Modifier.isStatic(c.getModifiers()) && !Modifier.isPublic(c.getModifiers());
            Check.dueValue(c + " is hidden", true, !isInside || isHidden);
        }
    }

    private static void source() throws Exception {
        String all = Files.readString(PROGRAM);
        for (char c : all.toCharArray()) {
            if (c != '\n' && (c < 32 || c > 126)) {
                Check.dueValue("a sign of the program", "32 to 126", (int) c);
            }
        }
        String code = all.replaceAll("(?s)/\\*.*?\\*/", "").replaceAll("//[^\n]*", "");
        for (String line : code.split("\n")) {
            boolean isImport = line.startsWith("import ") && !line.equals("import java.util.NoSuchElementException;");
            Check.dueValue(line, false, isImport || line.startsWith("package "));
        }
        String words = code.replaceAll("\"[^\"\n]*\"", "\"\"");
        String[] forbidden = {"->", "::", "\\bcatch\\b", "\\btry\\b", "\\bfinally\\b", "\\bsynchronized\\b",
            "\\bassert\\b", "\\binstanceof\\b", "\\byield\\b", "\\bvar\\b", "\\bobject\\b\\.", "\"\" \\+", "\\+ \"\"",
            "\\bSystem\\.(?!arraycopy)", "\\bordinal\\b", "\\bequals\\b", "\\btoString\\b", "\\bhashCode\\b",
            "Exact\\b", "\\bDouble\\b", "\\bFloat\\b", "\\bRandom\\b", "\\bThread\\b", "\\bstatic \\{", "boolean\\[\\]",
            "String\\[\\]", "\\bnull\\b"};
        for (String f : forbidden) {
            Matcher m = Pattern.compile(f).matcher(words);
            Check.dueValue("no " + f, false, m.find());
        }
        methodLengths(code);
    }

    /** An object is promised for 512 calls: Game refuses the 513th one, and few tests do without a Game. */
    private static void testsCountTheirCalls() throws Exception {
        List<String> own = List.of("Game.java", "RandomRunsTest.java", "ReadmeTest.java", "FaceTest.java");
        try (DirectoryStream<Path> tests = Files.newDirectoryStream(Path.of("src/test/java"), "*.java")) {
            for (Path test : tests) {
                boolean makesWorlds = Files.readString(test).contains("new AdventureWorld(");
                String name = test.getFileName().toString();
                Check.dueValue(name + " counts its calls", true, own.contains(name) || !makesWorlds);
            }
        }
    }

    private static void methodLengths(String code) {
        int start = -1;
        int line = 0;
        String indent = "";
        for (String l : code.split("\n")) {
            line++;
            if (start < 0 && l.matches("( {4}| {8})[\\w\\[\\]<> ]+\\(.*") && !l.endsWith(";")) {
                start = line;
                indent = l.replaceAll("\\S.*", "");
            } else if (start >= 0 && l.equals(indent + "}")) {
                Check.dueValue("the method that ends in line " + line + " is short", true, line - start <= 60);
                start = -1;
            }
        }
    }
}
