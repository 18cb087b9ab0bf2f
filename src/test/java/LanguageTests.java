import java.lang.reflect.Field;
import java.lang.reflect.Modifier;
import java.nio.file.Files;
import java.nio.file.Path;
import java.util.List;
import java.util.regex.Matcher;
import java.util.regex.Pattern;

/** Some rules of the language of the class that can be seen from its text, without comments and texts. */
public final class LanguageTests {
    private static final Path CLASS = Path.of("src/main/java/TermReckoner.java");
    private static final String[] NEVER = {
        "\\bcatch\\b", "\\btry\\b", "\\bfinally\\b", "->", "::", "\\bsynchronized\\b", "\\bassert\\b",
        "\\bpackage\\b", "\\bObject\\b", "\\bSystem\\.(?!arraycopy\\b)", "\\bMath\\.(?!min\\b|max\\b)",
        "\\bArrays\\.(?!fill\\b|copyOf\\b|copyOfRange\\b)", "Exact\\b", "\\bwhile \\(true\\)", "\\bfloat\\b",
        "\\bprotected\\b", "\\bstatic \\{", "\\bjava\\.(?!util\\.(Arrays|NoSuchElementException);)",
    };

    public static void main(String[] args) throws Exception {
        String text = Files.readString(CLASS).replaceAll("(?s)/\\*.*?\\*/", "").replaceAll("//[^\n]*", "");
        for (String never : NEVER) {
            Matcher found = Pattern.compile(never).matcher(text);
            Check.due("the class holds " + never, found.find(), false);
        }
        methodsAreShort(Files.readAllLines(CLASS));
        parametersAreFew(text);
        signsAreAscii(text);
        classesAndFieldsAreFew();
        Check.finish("LanguageTests");
    }

    /** Looks at every block that is indented by 4 or 8, and so at every method; classes may be longer. */
    private static void methodsAreShort(List<String> lines) {
        for (int i = 0; i < lines.size(); i++) {
            Matcher opening = Pattern.compile("( {4}| {8})[^ }].*\\{").matcher(lines.get(i));
            if (opening.matches() && !lines.get(i).contains(" class ")) {
                int length = lines.subList(i, lines.size()).indexOf(opening.group(1) + "}");
                Check.due("line " + (i + 1) + " opens 60 lines at most", length >= 0 && length < 60, true);
            }
        }
    }

    private static void parametersAreFew(String text) {
        Matcher list = Pattern.compile("\\w+ \\w+\\(([^()]*)\\)[^;{]*\\{").matcher(text);
        while (list.find()) {
            Check.due("parameters (" + list.group(1) + ")", list.group(1).split(",").length <= 7, true);
        }
    }

    private static void signsAreAscii(String text) {
        Check.due("signs beyond 127", text.chars().allMatch(sign -> sign < 128), true);
    }

    /** Some twelve classes in the file, and some twenty fields beside its constants in each. */
    private static void classesAndFieldsAreFew() {
        Class<?>[] inside = TermReckoner.class.getDeclaredClasses();
        Check.due("twelve classes at most", inside.length + 1 <= 12, true);
        fieldsAreFew(TermReckoner.class);
        for (Class<?> one : inside) {
            fieldsAreFew(one);
            Check.due(one.getSimpleName() + " holds no class", one.getDeclaredClasses().length, 0);
        }
    }

    private static void fieldsAreFew(Class<?> one) {
        int own = 0;
        for (Field field : one.getDeclaredFields()) {
            boolean isStatic = Modifier.isStatic(field.getModifiers());
            Check.due(field + " is final if it is static", isStatic && !Modifier.isFinal(field.getModifiers()), false);
            own += isStatic ? 0 : 1;
        }
        Check.due(one.getSimpleName() + " has twenty fields at most", own <= 20, true);
    }
}
