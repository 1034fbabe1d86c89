import java.nio.file.Files;
import java.nio.file.Path;

/** What of ../shared/LANGUAGE.md can be seen from the words of the program. Takes the file's path. */
public final class LanguageTests {
    private static final Checks checks = new Checks("LanguageTests");

    private static final String[] NO_WORDS = {"throw", "throws", "try", "catch", "finally", "synchronized", "assert",
        "package", "native", "protected", "Exception", "Error", "Thread", "System.out", "System.err", "System.in",
        "System.nanoTime", "System.currentTimeMillis", "Random", "File", "Runtime", "Class", "getClass", "hashCode"};

    /** The program without what stands in comments and texts. */
    private static String bare(String program) {
        String noComments = program.replaceAll("(?s)/\\*.*?\\*/", " ").replaceAll("//[^\n]*", " ");
        return noComments.replaceAll("\"(\\\\.|[^\"\\\\])*\"", "\"\"").replaceAll("'(\\\\.|[^'\\\\])'", "' '");
    }

    private static void words(String bare) {
        for (String word : NO_WORDS) {
            checks.holds("no " + word, !java.util.regex.Pattern.compile("\\b" + word.replace(".", "\\.") + "\\b")
                .matcher(bare).find());
        }
        checks.holds("no lambda", !bare.replaceAll("\\b(case|default)\\b[^;{}]*?->", "").contains("->"));
        checks.holds("no method reference", !bare.contains("::"));
        checks.holds("no toString of its own", !bare.contains("String toString("));
        checks.holds("no import but what is listed", !java.util.regex.Pattern
            .compile("\\bimport\\s+(?!java\\.util\\.(ArrayList|List|Arrays|Iterator);)").matcher(bare).find());
        java.util.regex.Matcher statics = java.util.regex.Pattern.compile("\\bstatic\\s+(int|long|boolean|char|String)\\b"
            + "[^(;{]*[=;]").matcher(bare);
        checks.holds("no static state", !statics.find());
    }

    /** "constants, whose signs are 1 to 127". */
    private static void signs(String program) {
        java.util.regex.Matcher text = java.util.regex.Pattern.compile("\"(\\\\.|[^\"\\\\\n])*\"|'(\\\\.|[^'\\\\\n])'")
            .matcher(program.replaceAll("(?s)/\\*.*?\\*/", " ").replaceAll("//[^\n]*", " "));
        while (text.find()) {
            checks.holds("signs below 128 in " + text.group(), text.group().chars().allMatch(c -> c < 128));
        }
    }

    private static void lengths(String program) {
        String[] lines = program.split("\n");
        int start = -1;
        String indent = "";
        for (int i = 0; i < lines.length; i++) {
            java.util.regex.Matcher head = java.util.regex.Pattern
                .compile("( {4,8})(public|private)[^=;]*\\([^;]*").matcher(lines[i]);
            if (head.matches()) {
                start = i;
                indent = head.group(1);
            }
            if (start >= 0 && lines[i].equals(indent + "}")) {
                checks.holds("a method of " + (i - start + 1) + " lines at line " + (start + 1), i - start < 70);
                start = -1;
            }
        }
    }

    private static void classes(String bare) {
        java.util.regex.Matcher inside = java.util.regex.Pattern.compile("\\bclass\\b").matcher(bare);
        int n = 0;
        while (inside.find()) {
            n++;
        }
        checks.holds("some twelve classes at most: " + n, n <= 14);
    }

    /** "Ahead of the calls .. the interface says: ----": each heading, and the calls behind it in their order. */
    private static void headings(String program) {
        String[] due = {
            "---- cards", "card", "feed", "deck", "of", "deal", "base", "mend", "player",
            "---- values, events", "value", "layer", "depends", "used",
            "---- the pile", "play", "pile", "resolve", "run", "ended", "turn",
            "---- in thought", "dry", "worth", "best", "byTurns", "matter", "swing", "next", "ahead", "trace", "seed",
            "image", "back",
            "---- handles", "hold", "tells", "count"};
        int from = 0;
        for (String one : due) {
            boolean isHeading = one.startsWith("-");
            int place = program.indexOf(isHeading ? "// " + one + "\n" : "public int " + one + "(", from);
            checks.holds(one + " stands where it is due", place >= 0);
            from = Math.max(from, place);
        }
    }

    public static void main(String[] args) throws Exception {
        String program = Files.readString(Path.of(args.length > 0 ? args[0] : "src/main/java/LayeredCards.java"));
        words(bare(program));
        signs(program);
        headings(program);
        lengths(program);
        classes(bare(program));
        checks.close();
    }
}
