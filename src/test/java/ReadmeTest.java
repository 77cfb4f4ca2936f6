import java.io.IOException;
import java.lang.reflect.Method;
import java.nio.file.Files;
import java.nio.file.Path;
import java.util.List;
import java.util.Set;
import java.util.TreeSet;
import java.util.regex.Matcher;
import java.util.regex.Pattern;
import java.util.stream.Collectors;
import java.util.stream.Stream;

/** That README.md tells what is so: its calls answer as it says, its command and tests are there. */
final class ReadmeTest {
    private static final String MADE = "PancakeRun run = new PancakeRun();";
    private static final Pattern CALL =
        Pattern.compile("run\\.(\\w+)\\(([^()]*)\\); +// (-?\\d+)(?:: \\S.*)?");

    private static PancakeRun run = null;
    private static final Set<String> called = new TreeSet<>();

    private ReadmeTest() {
    }

    public static void main(String[] args) throws IOException, ReflectiveOperationException {
        String page = Files.readString(Path.of("README.md"));
        for (String block : blocks(page, "java")) {
            for (String line : block.strip().split("\n")) {
                tryLine(line);
            }
        }
        everyCallIsTold(page);
        commandIsThere(page);
        everyTestIsTold(page);
        typedBytesAreTheirSigns(page);
        Due.end();
    }

    private static List<String> blocks(String page, String language) {
        Matcher block = Pattern.compile("(?s)```" + language + "\n(.*?)```").matcher(page);
        return block.results().map(found -> found.group(1)).collect(Collectors.toList());
    }

    private static void tryLine(String line) throws ReflectiveOperationException {
        if (line.equals(MADE)) {
            run = new PancakeRun();
            return;
        }
        Matcher call = CALL.matcher(line);
        Due.holds("a call and its answer: " + line, call.matches());
        if (call.matches()) {
            Due.is(line, answer(call.group(1), call.group(2)), Long.parseLong(call.group(3)));
            called.add(call.group(1));
        }
    }

    private static long answer(String name, String listed) throws ReflectiveOperationException {
        String[] signs = listed.isEmpty() ? new String[0] : listed.split(", ");
        for (Method method : PancakeRun.class.getMethods()) {
            Class<?>[] types = method.getParameterTypes();
            if (method.getName().equals(name) && types.length == signs.length) {
                Object[] given = new Object[signs.length];
                for (int i = 0; i < signs.length; i++) {
                    given[i] = types[i] == long.class
                        ? (Object) Long.decode(signs[i].replaceFirst("L$", "")) : Integer.decode(signs[i]);
                }
                return ((Number) method.invoke(run, given)).longValue();
            }
        }
        throw new NoSuchMethodException(name);
    }

    private static void everyCallIsTold(String page) {
        for (Method method : PancakeRun.class.getDeclaredMethods()) {
            if (java.lang.reflect.Modifier.isPublic(method.getModifiers())) {
                String name = method.getName();
                Due.holds("README calls " + name, called.contains(name));
                Due.is("README's table has " + name + " with all its numbers",
                    numbersInTable(page, name), method.getParameterCount());
            }
        }
    }

    /** How many numbers a call has where a table tells it; -1, if none does. */
    private static int numbersInTable(String page, String name) {
        Matcher told = Pattern.compile("(?m)^\\|.*`" + name + "\\(([^()`]*)\\)`").matcher(page);
        if (!told.find()) {
            return -1;
        }
        return told.group(1).isEmpty() ? 0 : told.group(1).split(", ").length;
    }

    private static void commandIsThere(String page) {
        Due.holds("README's command", blocks(page, "sh").contains("bash .ci/run\n"));
        Due.holds(".ci/run is there", Files.exists(Path.of(".ci/run")));
    }

    private static void everyTestIsTold(String page) throws IOException {
        Set<String> told = new TreeSet<>();
        Matcher name = Pattern.compile("`(\\w+Test)`").matcher(page);
        while (name.find()) {
            told.add(name.group(1));
        }
        try (Stream<Path> files = Files.list(Path.of("src/test/java"))) {
            Set<String> there = files.map(file -> file.getFileName().toString())
                .filter(file -> file.endsWith("Test.java")).map(file -> file.replace(".java", ""))
                .collect(Collectors.toCollection(TreeSet::new));
            Due.same("tests that README names", told.toString(), there.toString());
        }
    }

    /** What stands in quotes behind a number of bytes is what they are. */
    private static void typedBytesAreTheirSigns(String page) {
        Matcher typed =
            Pattern.compile("type\\(0x([0-9a-f]+)L, (\\d)\\); +// \\d+: \"(.*)\"").matcher(page);
        int found = 0;
        while (typed.find()) {
            StringBuilder bytes = new StringBuilder();
            for (char sign : typed.group(3).toCharArray()) {
                bytes.append(String.format("%02x", (int) sign));
            }
            Due.same("bytes of \"" + typed.group(3) + "\"", typed.group(1), bytes.toString());
            Due.is("how many of them", typed.group(3).length(), Long.parseLong(typed.group(2)));
            found++;
        }
        Due.holds("bytes are told", found > 0);
    }
}
