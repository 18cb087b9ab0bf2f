import java.lang.reflect.Field;
import java.lang.reflect.Modifier;
import java.nio.file.Files;
import java.nio.file.Path;
import java.util.HashMap;
import java.util.List;
import java.util.Map;
import java.util.Set;
import java.util.TreeSet;
import java.util.regex.Matcher;
import java.util.regex.Pattern;

/** Some rules of the language of the class that can be seen from its text, without comments and texts. */
public final class LanguageTests {
    private static final Path CLASS = Path.of("src/main/java/TermReckoner.java");
    private static final String[] NEVER = {
        "\\bcatch\\b", "\\btry\\b", "\\bfinally\\b", "->", "::", "\\bsynchronized\\b", "\\bassert\\b",
        "\\bpackage\\b", "\\bObject\\b", "Exact\\b", "\\bwhile \\(true\\)", "\\bfloat\\b", "\\binstanceof\\b",
        "\\bprotected\\b", "\\bstatic \\{", "\\bjava\\.(?!util\\.(Arrays|NoSuchElementException);)",
    };

    /** What the class may use of the library, and does. */
    private static final Set<String> LIBRARY = Set.of("Arrays.fill", "Integer.bitCount", "Integer.compare",
            "Long.bitCount", "Math.max", "Math.min", "System.arraycopy");
    private static final Set<String> EXCEPTIONS = Set.of("IllegalStateException", "IllegalArgumentException",
            "IndexOutOfBoundsException", "NoSuchElementException");

    public static void main(String[] args) throws Exception {
        String text = Files.readString(CLASS).replaceAll("(?s)/\\*.*?\\*/", "").replaceAll("//[^\n]*", "");
        for (String never : NEVER) {
            Matcher found = Pattern.compile(never).matcher(text);
            Check.due("the class holds " + never, found.find(), false);
        }
        methodsAreShort(Files.readAllLines(CLASS));
        parametersAreFew(text);
        signsAreAscii(text);
        classesAndFieldsAreFew();
        libraryIsAllowed(text);
        exceptionsAreThrownPlainly(text);
        noCallMakesAnObject(text);
        callsAreNotDeep(text);
        Check.finish("LanguageTests");
    }

    /** Looks at every block that is indented by 4 or 8, and so at every method; classes may be longer. */
    private static void methodsAreShort(List<String> lines) {
        for (int i = 0; i < lines.size(); i++) {
            Matcher opening = Pattern.compile("( {4}| {8})[^ }].*\\{").matcher(lines.get(i));
            if (opening.matches() && !lines.get(i).contains(" class ")) {
                int length = lines.subList(i, lines.size()).indexOf(opening.group(1) + "}");
                Check.due("line " + (i + 1) + " opens 60 lines at most", length >= 0 && length < 60, true);
            }
        }
    }

    private static void parametersAreFew(String text) {
        Matcher list = Pattern.compile("\\w+ \\w+\\(([^()]*)\\)[^;{]*\\{").matcher(text);
        while (list.find()) {
            Check.due("parameters (" + list.group(1) + ")", list.group(1).split(",").length <= 7, true);
        }
    }

    private static void signsAreAscii(String text) {
        Check.due("signs beyond 127", text.chars().allMatch(sign -> sign < 128), true);
    }

    /** Some twelve classes in the file, and some twenty fields beside its constants in each. */
    private static void classesAndFieldsAreFew() {
        Class<?>[] inside = TermReckoner.class.getDeclaredClasses();
        Check.due("twelve classes at most", inside.length + 1 <= 12, true);
        fieldsAreFew(TermReckoner.class);
        for (Class<?> one : inside) {
            fieldsAreFew(one);
            Check.due(one.getSimpleName() + " holds no class", one.getDeclaredClasses().length, 0);
        }
    }

    private static void fieldsAreFew(Class<?> one) {
        int own = 0;
        for (Field field : one.getDeclaredFields()) {
            boolean isStatic = Modifier.isStatic(field.getModifiers());
            Check.due(field + " is final if it is static", isStatic && !Modifier.isFinal(field.getModifiers()), false);
            Check.due(field + " is an int if it is static", isStatic && field.getType() != int.class, false);
            own += isStatic ? 0 : 1;
        }
        Check.due(one.getSimpleName() + " has twenty fields at most", own <= 20, true);
    }

    private static void libraryIsAllowed(String text) {
        TreeSet<String> used = new TreeSet<>();
        Matcher call = Pattern.compile("\\b([A-Z]\\w*)\\.[a-z]\\w*").matcher(text);
        while (call.find()) {
            if (!call.group(1).equals("Dates")) {
                used.add(call.group());
            }
        }
        Check.due("static calls of the library", used.toString(), new TreeSet<>(LIBRARY).toString());
        TreeSet<String> ofText = new TreeSet<>();
        Matcher builder = Pattern.compile("\\boutput\\.(\\w+)").matcher(text);
        while (builder.find()) {
            ofText.add(builder.group(1));
        }
        Check.due("calls of the StringBuilder", ofText.toString(), "[append, charAt, length, setLength]");
    }

    private static void exceptionsAreThrownPlainly(String text) {
        Matcher thrown = Pattern.compile("\\bthrow\\b([^;]*);").matcher(text);
        while (thrown.find()) {
            Matcher plain = Pattern.compile(" new (\\w+)\\(\\)").matcher(thrown.group(1));
            Check.due("throw" + thrown.group(1), plain.matches() && EXCEPTIONS.contains(plain.group(1)), true);
        }
        Check.due("the constructor is empty", text.contains("    public TermReckoner() {\n    }\n"), true);
    }

    /** Objects and arrays are made by field initialisers alone, so that a long run makes no more of them. */
    private static void noCallMakesAnObject(String text) {
        Matcher making = Pattern.compile("(?m)^.*\\bnew\\b.*$").matcher(text);
        while (making.find()) {
            String line = making.group().trim();
            boolean isField = line.matches("(private )?final [\\w\\[\\]]+ \\w+ = new [\\w()\\[\\]]+;");
            Check.due(line, isField || line.startsWith("throw new "), true);
        }
    }

    /** By the names of the methods alone, so that the depth that is found is never too small. */
    private static void callsAreNotDeep(String text) {
        Map<String, TreeSet<String>> calls = new HashMap<>();
        Matcher method = Pattern.compile("(?m)^( {4}| {8})(?:[\\w\\[\\]]+ )+(\\w+)\\([^;{}]*\\{$").matcher(text);
        while (method.find()) {
            int end = text.indexOf("\n" + method.group(1) + "}\n", method.end() - 1);
            TreeSet<String> called = calls.computeIfAbsent(method.group(2), name -> new TreeSet<>());
            Matcher call = Pattern.compile("\\b(\\w+)\\(").matcher(text.substring(method.end(), end));
            while (call.find()) {
                called.add(call.group(1));
            }
        }
        Check.due("methods found", calls.size() > 90, true);
        for (String name : calls.keySet()) {
            int depth = depth(name, calls, 0);
            Check.due(name + " opens " + depth + " calls, and eight at most", depth <= 8, true);
        }
    }

    /** The calls that stand open at once; more than eight if a method calls itself. */
    private static int depth(String name, Map<String, TreeSet<String>> calls, int above) {
        int deepest = above;
        if (calls.containsKey(name) && above <= 8) {
            deepest = above + 1;
            for (String called : calls.get(name)) {
                deepest = Math.max(deepest, depth(called, calls, above + 1));
            }
        }
        return deepest;
    }
}
