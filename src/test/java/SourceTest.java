import java.io.IOException;
import java.nio.file.Files;
import java.nio.file.Path;
import java.util.regex.Matcher;
import java.util.regex.Pattern;

/** The rules of LANGUAGE.md that can be seen in the text of the program. */
public final class SourceTest {
    private static final Checks CHECKS = new Checks();
    /** Package and library, code rule 2 leaves out, what rules 6 and 13 leave out. */
    private static final String[] RULED_OUT = {
        "\\bpackage\\b", "\\bimport\\b", "\\bjava\\s*\\.", "->", "::", "\\bcatch\\b", "\\btry\\b", "\\bfinally\\b",
        "\\bsynchronized\\b", "\\bassert\\b", "\\bprotected\\b", "\\bMath\\s*\\.\\s*\\w+Exact", "\\bvolatile\\b",
        "\\bextends\\b", "\\bRandom\\b", "\\bThread\\b", "\\bcurrentTimeMillis\\b", "\\bnanoTime\\b",
        "\\bequals\\b", "\\bhashCode\\b", "\\btoString\\b", "\\bwhile\\s*\\(\\s*true\\b", "static\\s*\\{",
        "\"\"\\s*\\+", "\\+\\s*\"\"", "\\.\\.\\.",
    };
    private static final int LONGEST_METHOD = 60;

    private SourceTest() {
    }

    public static void main(String[] args) throws IOException {
        String path = System.getenv().getOrDefault("HEDGE_SOURCE", "src/main/java/HedgeMessages.java");
        String source = Files.readString(Path.of(path));
        String bare = source.replaceAll("(?s)/\\*.*?\\*/", "").replaceAll("//[^\n]*", "")
                .replaceAll("\"[^\"\n]*\"", "\"\"");
        CHECKS.test("the program holds nothing that is ruled out", () -> ruledOut(bare));
        CHECKS.test("the program holds signs 1 to 127 alone", () -> signs(source));
        CHECKS.test("every exception is one that the document names", () -> exceptions(bare));
        CHECKS.test("methods are short", () -> lengths(source));
        CHECKS.test("a call makes no object but its exception", () -> objects(bare));
        CHECKS.close();
    }

    private static void ruledOut(String bare) {
        for (String pattern : RULED_OUT) {
            Matcher found = Pattern.compile(pattern).matcher(bare);
            CHECKS.same(false, found.find(), "a look for " + pattern);
        }
    }

    private static void signs(String source) {
        CHECKS.same(true, source.chars().allMatch(sign -> sign > 0 && sign < 128), "all signs");
    }

    private static void exceptions(String bare) {
        Matcher thrown = Pattern.compile("\\bthrow\\b([^;]*);").matcher(bare);
        int count = 0;
        while (thrown.find()) {
            count++;
            CHECKS.same(true, thrown.group(1).matches(
                    "\\s*new (IllegalState|IllegalArgument|IndexOutOfBounds)Exception\\(\"\"\\)"), thrown.group());
        }
        CHECKS.same(true, count > 0, "there are throw statements");
    }

    /** What is made elsewhere is made once: by a constructor, or by receiveText, which only the constructor calls. */
    private static void objects(String bare) {
        Pattern head = Pattern.compile("^(?: {4}| {8})(?:\\w+ )*(\\w+)\\([^;]*\\{$");
        String method = "";
        int made = 0;
        for (String line : bare.split("\n")) {
            Matcher found = head.matcher(line);
            if (found.find()) {
                method = found.group(1);
            }
            if (line.matches(".*\\bnew\\b.*") && !line.contains("throw new")) {
                made++;
                CHECKS.same(true, Character.isUpperCase(method.charAt(0)) || method.equals("receiveText"),
                        "an object in a constructor, not in " + method);
            }
        }
        CHECKS.same(true, made > 0, "there are objects");
        CHECKS.same(4, bare.split("receiveText\\(", -1).length - 1, "receiveText and three calls in the constructor");
    }

    private static void lengths(String source) {
        String[] lines = source.split("\n");
        int start = -1;
        int indent = 0;
        for (int line = 0; line < lines.length; line++) {
            int spaces = lines[line].length() - lines[line].stripLeading().length();
            String text = lines[line].strip();
            if (start < 0 && text.endsWith("{") && text.contains("(") && (spaces == 4 || spaces == 8)) {
                start = line;
                indent = spaces;
            } else if (start >= 0 && text.equals("}") && spaces == indent) {
                CHECKS.same(true, line - start < LONGEST_METHOD, "the length of " + lines[start].strip());
                start = -1;
            }
        }
    }
}
