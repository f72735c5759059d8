import java.io.IOException;
import java.nio.file.Files;
import java.nio.file.Path;
import java.util.regex.Matcher;
import java.util.regex.Pattern;

/**
 * The rules of LANGUAGE.md that can be seen in the program's text. Where a rule leaves more than the
 * program uses, the test asks for the less, which a pattern can tell. Runs in the project's directory.
 */
public final class LanguageTest {
    private static final int LONGEST_METHOD = 60;
    private static final String THROWN = "IllegalStateException|IllegalArgumentException|IndexOutOfBoundsException"
            + "|ArithmeticException|UnsupportedOperationException|NoSuchElementException|RuntimeException";

    public static void main(String[] args) throws IOException {
        String written = Files.readString(Path.of("src/main/java/StepCourt.java"));
        String text = withoutComments(written);
        String code = text.replaceAll("\"[^\"\n]*\"", "\"\"");
        has("rule 3: texts of characters 0 to 255", written, "[^\\x00-\\xff]", false);
        has("one file without a package", code, "\\b(package|import)\\b", false);
        has("rule 2: no lambda, no method reference", code, "->|::", false);
        has("rule 3: no double, no float", code, "\\b(double|float)\\b", false);
        has("rule 4: nothing of the library but arraycopy", code,
                "\\b(java|Math|Integer|Long|Arrays|ArrayList|List|StringBuilder|String|Object)\\b", false);
        has("rule 4: nothing of System but arraycopy", code, "\\bSystem\\.(?!arraycopy\\()", false);
        has("rule 5: static fields are final", code, "\\bstatic (?!final )[\\w\\[\\]]+ \\w+\\s*[=;]", false);
        has("rule 5: no static initialiser", code, "\\bstatic\\s*\\{", false);
        has("rule 6: no try, finally, synchronized, assert, instanceof", code,
                "\\b(try|catch|finally|synchronized|assert|instanceof)\\b", false);
        has("rule 6: no exception class of its own", code, "\\bextends\\b", false);
        has("rule 6: there are throws", text, "\\bthrow new ", true);
        has("rule 6: throw new E() or with a written text", text,
                "\\bthrow (?!new (" + THROWN + ")\\((\"[^\"\n]*\")?\\);)", false);
        has("rule 10: a text stands in a throw alone", text.replaceAll("throw new \\w+\\(\"[^\"\n]*\"\\);", ""), "\"", false);
        has("rule 9: every loop counts", code, "\\b(while|do)\\b|for \\((?!int (\\w+) = [^;]+; \\2 (<|>=) [^;]+; \\2(\\+\\+|--)\\))", false);
        methodsAreShort(code);
        Check.finish();
    }

    /** No text of the program has the signs of a comment in it. */
    private static String withoutComments(String text) {
        return text.replaceAll("(?s)/\\*.*?\\*/", "").replaceAll("//[^\n]*", "");
    }

    private static void has(String rule, String text, String pattern, boolean due) {
        Matcher matcher = Pattern.compile(pattern).matcher(text);
        boolean found = matcher.find();
        Check.yes(rule + (found ? ": " + matcher.group() : ""), found == due);
    }

    private static void methodsAreShort(String code) {
        Matcher body = Pattern.compile("(?ms)^( {4}| {8})(?! )[^\n;=]*\\([^;]*?\\{\n.*?^\\1\\}$").matcher(code);
        int seen = 0;
        while (body.find()) {
            seen++;
            long lines = body.group().lines().count();
            Check.yes(body.group().lines().findFirst().orElse("") + " has " + lines + " lines", lines <= LONGEST_METHOD);
        }
        Check.yes("methods were seen: " + seen, seen > 50);
    }
}
