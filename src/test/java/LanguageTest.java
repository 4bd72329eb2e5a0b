import java.io.IOException;
import java.nio.file.Files;
import java.nio.file.Path;
import java.util.regex.Matcher;
import java.util.regex.Pattern;

/** What can be seen of LANGUAGE.md's rules by looking at the program's text. */
public final class LanguageTest {
    private static final String[] BANNED = {"->", "::", "\\bcatch\\b", "\\btry\\b", "\\bfinally\\b", "\\bsynchronized\\b",
        "\\bassert\\b", "\\bstatic\\s*\\{", "\\bpackage\\b", "\\bSystem\\.(?!arraycopy)", "\\bThread\\b", "\\bRandom\\b",
        "\\bequals\\b", "\\bhashCode\\b", "\\btoString\\b", "\\bprotected\\b", "\\bwhile\\s*\\(true\\)", "Exact\\b"};
    private static final int MOST_LINES = 60;

    public static void main(String[] args) throws IOException {
        String text = Files.readString(Path.of("src/main/java/Postlint.java"));
        for (String banned : BANNED) {
            Matcher found = Pattern.compile(banned).matcher(text);
            Check.no("the program has " + banned, found.find());
        }
        Matcher imports = Pattern.compile("(?m)^import (.*);$").matcher(text);
        while (imports.find()) {
            Check.equal("import", imports.group(1), "java.util.ArrayList");
        }
        Check.yes("the signs are ASCII", text.chars().allMatch(sign -> sign < 128));
        methodsAreShort(text.split("\n"));
        Check.close("LanguageTest");
    }

    /** A method's header ends with "{", and its end stands as far in as its header. */
    private static void methodsAreShort(String[] lines) {
        for (int i = 0; i < lines.length; i++) {
            String line = lines[i];
            String indent = line.substring(0, line.length() - line.stripLeading().length());
            boolean isMethod = (indent.length() == 4 || indent.length() == 8) && line.endsWith("{")
                && line.contains(")") && !line.matches(" *(if|for|while|do|switch|}) .*");
            if (isMethod) {
                int end = i;
                while (end < lines.length && !lines[end].equals(indent + "}")) {
                    end++;
                }
                Check.yes("the method in line " + (i + 1) + " is short", end - i < MOST_LINES);
            }
        }
    }
}
