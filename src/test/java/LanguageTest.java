import java.io.IOException;
import java.lang.reflect.Field;
import java.lang.reflect.Method;
import java.lang.reflect.Modifier;
import java.nio.file.Files;
import java.nio.file.Path;
import java.util.Set;
import java.util.regex.Matcher;
import java.util.regex.Pattern;

/** What can be seen of LANGUAGE.md's rules by looking at the program's text. */
public final class LanguageTest {
    private static final String[] BANNED = {"->", "::", "\\bcatch\\b", "\\btry\\b", "\\bfinally\\b", "\\bsynchronized\\b",
        "\\bassert\\b", "\\bstatic\\s*\\{", "\\bpackage\\b", "\\bSystem\\.(?!arraycopy)", "\\bThread\\b", "\\bRandom\\b",
        "\\bequals\\b", "\\bhashCode\\b", "\\btoString\\b", "\\bprotected\\b", "\\bwhile\\s*\\(true\\)", "Exact\\b"};
    // Rule 4: what the program uses of the library, and rule 6: the exceptions that the document names.
    private static final Set<String> LIBRARY = Set.of("ArrayList", "Math", "IllegalStateException",
        "IllegalArgumentException", "IndexOutOfBoundsException");
    private static final Set<String> LIST_CALLS = Set.of("add", "get", "set", "size");
    private static final Set<String> MATH_CALLS = Set.of("max", "min", "abs");
    private static final int MOST_LINES = 60;
    private static final int MOST_PARAMETERS = 7;
    private static final int MOST_CLASSES = 12;
    private static final int MOST_FIELDS = 20;

    public static void main(String[] args) throws IOException {
        String text = Files.readString(Path.of("src/main/java/Postlint.java"));
        for (String banned : BANNED) {
            Matcher found = Pattern.compile(banned).matcher(text);
            Check.no("the program has " + banned, found.find());
        }
        Matcher imports = Pattern.compile("(?m)^import (.*);$").matcher(text);
        while (imports.find()) {
            Check.equal("import", imports.group(1), "java.util.ArrayList");
        }
        Check.yes("the signs are ASCII", text.chars().allMatch(sign -> sign < 128));
        methodsAreShort(text.split("\n"));
        String code = withoutWords(text);
        namesAreAllowed(code);
        callsAreAllowed(code, "(?:ledger|rules|audits)", LIST_CALLS);
        callsAreAllowed(code, "Math", MATH_CALLS);
        throwsAreMadeThere(code);
        classesAreSmall();
        Check.close("LanguageTest");
    }

    /** The program without what stands in its comments and texts. */
    private static String withoutWords(String text) {
        return text.replaceAll("(?s)/\\*.*?\\*/", "").replaceAll("//[^\n]*", "").replaceAll("\"[^\"\n]*\"", "\"\"");
    }

    private static void namesAreAllowed(String code) {
        Matcher name = Pattern.compile("\\b[A-Z]\\w*[a-z]\\w*").matcher(code);
        while (name.find()) {
            boolean own = code.contains("class " + name.group() + " ");
            Check.yes("the name " + name.group() + " is allowed", own || LIBRARY.contains(name.group()));
        }
    }

    private static void callsAreAllowed(String code, String on, Set<String> allowed) {
        Matcher call = Pattern.compile("\\b" + on + "\\.(\\w+)").matcher(code);
        Check.yes("there are calls on " + on, call.find());
        for (boolean found = true; found; found = call.find()) {
            Check.yes(call.group() + " is allowed", allowed.contains(call.group(1)));
        }
    }

    // Rule 6: "throw new E() or throw new E("a written text")".
    private static void throwsAreMadeThere(String code) {
        Matcher thrown = Pattern.compile("\\bthrow\\b[^;]*;").matcher(code);
        while (thrown.find()) {
            Check.yes(thrown.group(), thrown.group().matches("throw new \\w+\\((\"\")?\\);"));
        }
    }

    private static void classesAreSmall() {
        Class<?>[] inner = Postlint.class.getDeclaredClasses();
        Check.yes("there are few classes", inner.length < MOST_CLASSES);
        classIsSmall(Postlint.class);
        for (Class<?> one : inner) {
            classIsSmall(one);
        }
    }

    private static void classIsSmall(Class<?> one) {
        int fields = 0;
        for (Field field : one.getDeclaredFields()) {
            boolean isStatic = Modifier.isStatic(field.getModifiers());
            boolean isConstant = isStatic && Modifier.isFinal(field.getModifiers()) && field.getType() == int.class;
            Check.yes(field + " is a constant or no static field", !isStatic || isConstant);
            fields += isStatic ? 0 : 1;
        }
        Check.yes(one + " has few fields", fields <= MOST_FIELDS);
        for (Method method : one.getDeclaredMethods()) {
            Check.yes(method + " takes few parameters", method.getParameterCount() <= MOST_PARAMETERS);
        }
    }

    /** A method's header ends with "{", and its end stands as far in as its header. */
    private static void methodsAreShort(String[] lines) {
        for (int i = 0; i < lines.length; i++) {
            String line = lines[i];
            String indent = line.substring(0, line.length() - line.stripLeading().length());
            boolean isMethod = (indent.length() == 4 || indent.length() == 8) && line.endsWith("{")
                && line.contains(")") && !line.matches(" *(if|for|while|do|switch|}) .*");
            if (isMethod) {
                int end = i;
                while (end < lines.length && !lines[end].equals(indent + "}")) {
                    end++;
                }
                Check.yes("the method in line " + (i + 1) + " is short", end - i < MOST_LINES);
            }
        }
    }
}
