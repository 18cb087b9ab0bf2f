import java.io.ByteArrayOutputStream;
import java.io.PrintStream;
import java.lang.reflect.Field;
import java.lang.reflect.Method;
import java.lang.reflect.Modifier;
import java.nio.charset.StandardCharsets;
import java.nio.file.Files;
import java.nio.file.Path;
import java.util.Map;
import java.util.TreeMap;
import java.util.regex.Matcher;
import java.util.regex.Pattern;

/** What README.md shows is true of the class: its example, its calls, and the exceptions that they throw. */
public final class ReadmeTests {
    private static final Path README = Path.of("README.md");
    private static final Path DOCUMENT = Path.of("../shared/DOC.md");
    private static final Path EXAMPLE = Path.of("src/test/java/ReadmeExample.java");
    private static final Pattern ROW = Pattern.compile("(?m)^\\| `((\\w+)\\(.*?\\))` \\| (.+?) \\| (.+?) \\|$");

    public static void main(String[] args) throws Exception {
        String readme = Files.readString(README);
        theExampleIsTheOneThatRuns(readme);
        eachCallHasARow(readme);
        theCallsAreWrittenAsInTheDocument(readme);
        eachConstantIsNamed(readme);
        howToRunTheTests(readme);
        Check.finish("ReadmeTests");
    }

    private static String block(String readme, String language) {
        Matcher block = Pattern.compile("(?s)```" + language + "\n(.*?)```").matcher(readme);
        return block.find() ? block.group(1) : "no block of " + language;
    }

    private static void theExampleIsTheOneThatRuns(String readme) throws Exception {
        Check.due("the example of README.md", block(readme, "java"), Files.readString(EXAMPLE));
        PrintStream before = System.out;
        ByteArrayOutputStream printed = new ByteArrayOutputStream();
        System.setOut(new PrintStream(printed, true, StandardCharsets.UTF_8));
        try {
            ReadmeExample.main(new String[0]);
        } finally {
            System.setOut(before);
        }
        String text = printed.toString(StandardCharsets.UTF_8).replace("\r\n", "\n");
        Check.due("what the example prints", block(readme, "text"), text);
    }

    /** With the exceptions that the method declares, in this order. */
    private static void eachCallHasARow(String readme) {
        Map<String, String> want = new TreeMap<>();
        for (Method m : TermReckoner.class.getDeclaredMethods()) {
            if (Modifier.isPublic(m.getModifiers())) {
                StringBuilder exceptions = new StringBuilder();
                for (Class<?> exception : m.getExceptionTypes()) {
                    exceptions.append(' ').append(exception.getSimpleName());
                }
                want.put(m.getName(), exceptions.toString());
            }
        }
        Map<String, String> got = new TreeMap<>();
        Matcher row = ROW.matcher(readme);
        while (row.find()) {
            StringBuilder exceptions = new StringBuilder();
            Matcher exception = Pattern.compile("`(\\w+Exception)`: ").matcher(row.group(4));
            while (exception.find()) {
                exceptions.append(' ').append(exception.group(1));
            }
            Check.due(row.group(2) + " throws nothing", row.group(4).equals("nothing"), exceptions.length() == 0);
            Check.due(row.group(2) + " has one row", got.put(row.group(2), exceptions.toString()) == null, true);
        }
        Check.due("the calls of README.md and what they throw", got.toString(), want.toString());
    }

    /** With the same names of the parameters, and in the same order. */
    private static void theCallsAreWrittenAsInTheDocument(String readme) throws Exception {
        String face = Files.readString(DOCUMENT);
        face = face.substring(face.indexOf("```java"), face.indexOf("## Terms"));
        StringBuilder want = new StringBuilder();
        Matcher method = Pattern.compile("public (?:int|boolean|char) (\\w+\\(.*?\\))").matcher(face);
        while (method.find()) {
            want.append(method.group(1).replaceAll("\\bint ", "")).append('\n');
        }
        StringBuilder got = new StringBuilder();
        Matcher row = ROW.matcher(readme);
        while (row.find()) {
            got.append(row.group(1)).append('\n');
        }
        Check.due("the calls of README.md", got.toString(), want.toString());
    }

    private static void eachConstantIsNamed(String readme) {
        for (Field f : TermReckoner.class.getDeclaredFields()) {
            if (Modifier.isPublic(f.getModifiers())) {
                Check.due(f.getName() + " is in README.md", readme.contains("`" + f.getName() + "`"), true);
            }
        }
    }

    private static void howToRunTheTests(String readme) {
        Check.due("the script of README.md", readme.contains("\n    .ci/run\n"), true);
        Check.due("there is such a script", Files.isExecutable(Path.of(".ci/run")), true);
        Matcher alone = Pattern.compile("\n    java -cp build/own (\\w+)\n").matcher(readme);
        boolean named = alone.find();
        Check.due("a test that is run alone", named, true);
        String test = named ? alone.group(1) : "";
        Check.due("there is such a test", Files.exists(Path.of("src/test/java/" + test + ".java")), true);
    }
}
