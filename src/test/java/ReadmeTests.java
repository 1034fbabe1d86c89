import java.lang.reflect.Method;
import java.lang.reflect.Modifier;
import java.nio.file.Files;
import java.nio.file.Path;
import java.util.Set;
import java.util.TreeSet;
import java.util.regex.Matcher;
import java.util.regex.Pattern;
import java.util.stream.Collectors;
import java.util.stream.Stream;

/** README.md names each call as it is, and each test that there is. (.ci/run tries its example.) */
public final class ReadmeTests {
    private static final Checks checks = new Checks("ReadmeTests");

    private static String part(String readme, String from, String to) {
        int start = readme.indexOf(from);
        int end = readme.indexOf(to, Math.max(0, start));
        checks.holds("README.md has a part from " + from, start >= 0 && end > start);
        return start >= 0 && end > start ? readme.substring(start, end) : "";
    }

    /** The first column of a table: all that stands in it between backquotes. */
    private static Set<String> firstColumn(String part) {
        Set<String> found = new TreeSet<>();
        for (String line : part.split("\n")) {
            Matcher quoted = Pattern.compile("`([^`]+)`").matcher(line.startsWith("| `") ? line.split("\\|")[1] : "");
            while (quoted.find()) {
                found.add(quoted.group(1));
            }
        }
        return found;
    }

    private static void calls(String readme) {
        Set<String> told = new TreeSet<>();
        for (String call : firstColumn(part(readme, "### The calls", "\n### "))) {
            String takes = call.replaceAll(".*\\(|\\)", "");
            told.add(call.replaceAll("\\(.*", "") + "/" + (takes.isEmpty() ? 0 : takes.split(",").length));
        }
        Set<String> due = new TreeSet<>();
        for (Method method : LayeredCards.class.getDeclaredMethods()) {
            if (Modifier.isPublic(method.getModifiers())) {
                due.add(method.getName() + "/" + method.getParameterCount());
            }
        }
        checks.holds("README.md tells " + told + ", the calls are " + due, told.equals(due));
    }

    private static void constants(String readme) throws Exception {
        String part = part(readme, "### Answers that tell why not", "\n## ");
        for (String name : new String[] {"BAD", "NOT", "FULL", "STATE", "VOID"}) {
            int value = LayeredCards.class.getField(name).getInt(null);
            checks.holds("README.md has " + name, part.contains("`" + name + "` (" + value + ")"));
        }
    }

    private static boolean hasMain(Path file) {
        try {
            return Files.readString(file).contains("public static void main");
        } catch (java.io.IOException e) {
            throw new java.io.UncheckedIOException(e);
        }
    }

    private static void tests(String readme) throws Exception {
        Set<String> told = firstColumn(part(readme, "## To test it", "`Checks`"));
        Set<String> due;
        try (Stream<Path> files = Files.list(Path.of("src/test/java"))) {
            due = files.filter(ReadmeTests::hasMain).map(file -> file.getFileName().toString().replace(".java", ""))
                .collect(Collectors.toCollection(TreeSet::new));
        }
        checks.holds("README.md tells of " + told + ", the tests are " + due, told.equals(due));
    }

    public static void main(String[] args) throws Exception {
        String readme = Files.readString(Path.of("README.md"));
        calls(readme);
        constants(readme);
        tests(readme);
        checks.close();
    }
}
