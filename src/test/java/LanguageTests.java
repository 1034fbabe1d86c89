import java.nio.file.Files;
import java.nio.file.Path;

/** What of ../shared/LANGUAGE.md can be seen from the words of the program. Takes the file's path. */
public final class LanguageTests {
    private static final Checks checks = new Checks("LanguageTests");

    private static final String[] NO_WORDS = {"throw", "throws", "try", "catch", "finally", "synchronized", "assert",
        "import", "package", "volatile", "transient", "native", "goto", "var", "yield", "lambda", "Object", "Exception",
        "Thread", "System.out", "hashCode", "toString", "protected", "super", "java"};

    /** The program without what stands in comments and texts. */
    private static String bare(String program) {
        String noComments = program.replaceAll("(?s)/\\*.*?\\*/", " ").replaceAll("//[^\n]*", " ");
        return noComments.replaceAll("\"(\\\\.|[^\"\\\\])*\"", "\"\"").replaceAll("'(\\\\.|[^'\\\\])'", "' '");
    }

    private static void words(String bare) {
        for (String word : NO_WORDS) {
            checks.holds("no " + word, !java.util.regex.Pattern.compile("\\b" + word.replace(".", "\\.") + "\\b")
                .matcher(bare).find());
        }
        checks.holds("no lambda", !bare.contains("->"));
        checks.holds("no method reference", !bare.contains("::"));
        checks.holds("no annotation", !bare.contains("@"));
        checks.holds("no list of types", !bare.contains("<int") && !bare.contains("List"));
        java.util.regex.Matcher statics = java.util.regex.Pattern.compile("\\bstatic\\s+(int|long|boolean|char|String)\\b"
            + "[^(;{]*[=;]").matcher(bare);
        checks.holds("no static state", !statics.find());
    }

    private static void signs(String program) {
        for (int i = 0; i < program.length(); i++) {
            if (program.charAt(i) > 126) {
                checks.holds("no sign above 126 at " + i, false);
            }
        }
    }

    private static void lengths(String program) {
        String[] lines = program.split("\n");
        int start = -1;
        String indent = "";
        for (int i = 0; i < lines.length; i++) {
            java.util.regex.Matcher head = java.util.regex.Pattern
                .compile("( {4,8})(public|private)[^=;]*\\([^;]*").matcher(lines[i]);
            if (head.matches()) {
                start = i;
                indent = head.group(1);
            }
            if (start >= 0 && lines[i].equals(indent + "}")) {
                checks.holds("a method of " + (i - start + 1) + " lines at line " + (start + 1), i - start < 60);
                start = -1;
            }
        }
    }

    private static void classes(String bare) {
        java.util.regex.Matcher inside = java.util.regex.Pattern.compile("\\bclass\\b").matcher(bare);
        int n = 0;
        while (inside.find()) {
            n++;
        }
        checks.holds("twelve classes at most: " + n, n <= 12);
    }

    public static void main(String[] args) throws Exception {
        String program = Files.readString(Path.of(args.length > 0 ? args[0] : "src/main/java/LayeredCards.java"));
        words(bare(program));
        signs(program);
        lengths(program);
        classes(bare(program));
        checks.close();
    }
}
