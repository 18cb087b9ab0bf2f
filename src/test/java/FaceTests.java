import java.lang.reflect.Constructor;
import java.lang.reflect.Field;
import java.lang.reflect.Method;
import java.lang.reflect.Modifier;
import java.nio.file.Files;
import java.nio.file.Path;
import java.util.ArrayList;
import java.util.HashMap;
import java.util.List;
import java.util.Map;
import java.util.TreeSet;
import java.util.regex.Matcher;
import java.util.regex.Pattern;

/** The public face: exactly the constants, the constructor and the methods that the document lists. */
public final class FaceTests {
    private static final Path DOCUMENT = Path.of("../shared/DOC.md");
    private static final Path CLASS = Path.of("src/main/java/TermReckoner.java");

    public static void main(String[] args) throws Exception {
        membersAreThoseOfTheDocument();
        constants();
        nothingElseIsVisible();
        sections();
        Check.finish("FaceTests");
    }

    private static void membersAreThoseOfTheDocument() throws Exception {
        TreeSet<String> want = new TreeSet<>();
        for (String line : faceLines()) {
            want.add(line);
        }
        TreeSet<String> got = new TreeSet<>();
        for (Method m : TermReckoner.class.getDeclaredMethods()) {
            if (Modifier.isPublic(m.getModifiers())) {
                got.add(described(m));
            }
        }
        Check.due("methods", got.toString(), want.toString());
        Check.due("number of methods", got.size(), 49);
        Check.due("public and final", TermReckoner.class.getModifiers(), Modifier.PUBLIC | Modifier.FINAL);
    }

    /** The lines of the methods in the document, without the names of the parameters. */
    private static List<String> faceLines() throws Exception {
        List<String> lines = new ArrayList<>();
        String face = Files.readString(DOCUMENT);
        face = face.substring(face.indexOf("```java"), face.indexOf("## Terms"));
        for (String line : face.split("\n")) {
            String text = line.trim();
            if (text.startsWith("public ") && text.contains("(") && !text.startsWith("public TermReckoner(")) {
                text = text.replaceAll("(int|boolean|char) \\w+(?=[,)])", "$1");
                lines.add(text.substring("public ".length(), text.length() - 1));
            }
        }
        return lines;
    }

    private static String described(Method m) {
        StringBuilder text = new StringBuilder();
        text.append(m.getReturnType().getSimpleName()).append(' ').append(m.getName()).append('(');
        String comma = "";
        for (Class<?> type : m.getParameterTypes()) {
            text.append(comma).append(type.getSimpleName());
            comma = ", ";
        }
        text.append(')');
        comma = " throws ";
        for (Class<?> type : m.getExceptionTypes()) {
            text.append(comma).append(type.getSimpleName());
            comma = ", ";
        }
        return text.toString();
    }

    private static void constants() throws Exception {
        Map<String, Integer> want = new HashMap<>();
        want.put("HALF", 0);
        want.put("TWO_THIRDS", 1);
        want.put("FULL", 2);
        want.put("DETENTION", 3);
        want.put("FREE", 0);
        want.put("ON_LICENCE", 1);
        want.put("IN_CUSTODY", 2);
        int publicFields = 0;
        for (Field f : TermReckoner.class.getDeclaredFields()) {
            if (Modifier.isPublic(f.getModifiers())) {
                publicFields++;
                int modifiers = Modifier.PUBLIC | Modifier.STATIC | Modifier.FINAL;
                Check.due(f.getName() + " is a constant", f.getModifiers(), modifiers);
                Check.due(f.getName(), f.getInt(null), want.getOrDefault(f.getName(), -1));
            }
        }
        Check.due("number of constants", publicFields, want.size());
    }

    private static void nothingElseIsVisible() {
        TreeSet<String> faceNames = new TreeSet<>();
        for (Method m : TermReckoner.class.getMethods()) {
            faceNames.add(m.getName());
        }
        for (Method m : TermReckoner.class.getDeclaredMethods()) {
            boolean isPublic = Modifier.isPublic(m.getModifiers());
            boolean isPrivate = Modifier.isPrivate(m.getModifiers());
            Check.due(m.getName() + " is public or private", isPublic || isPrivate, true);
            Check.due(m.getName() + " is a private namesake", isPrivate && faceNames.contains(m.getName()), false);
        }
        for (Field f : TermReckoner.class.getDeclaredFields()) {
            boolean visible = !Modifier.isPrivate(f.getModifiers()) && !Modifier.isPublic(f.getModifiers());
            Check.due(f.getName() + " is package-visible or protected", visible, false);
        }
        for (Constructor<?> c : TermReckoner.class.getDeclaredConstructors()) {
            Check.due("a constructor is public", Modifier.isPublic(c.getModifiers()), true);
        }
        for (Class<?> inside : TermReckoner.class.getDeclaredClasses()) {
            Check.due(inside.getSimpleName() + " is static", Modifier.isStatic(inside.getModifiers()), true);
            Check.due(inside.getSimpleName() + " is public", Modifier.isPublic(inside.getModifiers()), false);
        }
    }

    /** "Ahead of the calls .. the interface says: ---- calendar.", and so on: the calls of each section, in order. */
    private static void sections() throws Exception {
        String document = Files.readString(DOCUMENT);
        String text = Files.readString(CLASS);
        Pattern sentence = Pattern.compile("Ahead of the calls (.*?) the interface says: ---- (.*?)\\.");
        Matcher section = sentence.matcher(document);
        int found = 0;
        while (section.find()) {
            String want = section.group(1).replace("`", "");
            Check.due("the calls ahead of which stands " + section.group(2), callsBelow(section.group(2), text), want);
            found++;
        }
        Check.due("sections", found, 7);
    }

    private static String callsBelow(String section, String text) {
        String opening = "    // ---- " + section + "\n";
        int start = text.indexOf(opening);
        if (start < 0) {
            return "no such section";
        }
        int from = start + opening.length();
        int to = text.indexOf("    // ---- ", from);
        String below = text.substring(from, to < 0 ? text.length() : to);
        List<String> calls = new ArrayList<>();
        Matcher call = Pattern.compile("    public \\w+ (\\w+)\\(").matcher(below);
        while (call.find()) {
            calls.add(call.group(1));
        }
        return String.join(", ", calls);
    }
}
