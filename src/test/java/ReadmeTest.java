import java.io.IOException;
import java.lang.reflect.Method;
import java.lang.reflect.Modifier;
import java.nio.file.Files;
import java.nio.file.Path;
import java.util.List;
import java.util.TreeSet;
import java.util.regex.Matcher;
import java.util.regex.Pattern;
import java.util.stream.Collectors;
import java.util.stream.Stream;

/** README.md against the project: its example's answers, the calls and the tests that it names. */
public final class ReadmeTest {
    private static final Path TESTS = Path.of("src/test/java");
    // A call of the example, with its answer at the beginning of the comment behind it.
    private static final Pattern CALL =
            Pattern.compile("finder\\.(\\w+)\\(([-0-9, ]*)\\); +// (true|false|-?\\d+)(?::.*)?");
    private static int wrong = 0;

    public static void main(String[] args) throws IOException, ReflectiveOperationException {
        String readme = Files.readString(Path.of("README.md"));
        TreeSet<String> tried = tryExample(readme);
        for (String name : publicMethods()) {
            hold("the example calls " + name, tried.contains(name));
            hold("the list of calls has " + name, readme.contains("`" + name + "("));
        }
        checkFiles(readme);
        checkCommands(readme);
        System.out.println(wrong == 0 ? "the text is true" : wrong + " faults");
        System.exit(wrong == 0 ? 0 : 1);
    }

    private static TreeSet<String> tryExample(String readme) throws ReflectiveOperationException {
        RankFinder finder = new RankFinder();
        TreeSet<String> tried = new TreeSet<>();
        for (String line : block(readme, "java").lines().skip(1).collect(Collectors.toList())) {
            Matcher call = CALL.matcher(line);
            if (!call.matches()) {
                hold("a call with its answer: " + line, false);
                continue;
            }
            String answer = String.valueOf(answer(finder, call.group(1), call.group(2)));
            hold(line + " answered " + answer, answer.equals(call.group(3)));
            tried.add(call.group(1));
        }
        return tried;
    }

    private static Object answer(RankFinder finder, String name, String numbers)
            throws ReflectiveOperationException {
        Object[] arguments = Stream.of(numbers.split(", ")).filter(text -> !text.isEmpty())
                .map(Integer::valueOf).toArray();
        Class<?>[] types = Stream.of(arguments).map(argument -> int.class).toArray(Class<?>[]::new);
        return RankFinder.class.getMethod(name, types).invoke(finder, arguments);
    }

    private static String block(String readme, String language) {
        Matcher block = Pattern.compile("(?s)```" + language + "\n(.*?)```").matcher(readme);
        hold("a block of " + language, block.find());
        return block.group(1);
    }

    private static TreeSet<String> publicMethods() {
        TreeSet<String> names = new TreeSet<>();
        for (Method method : RankFinder.class.getDeclaredMethods()) {
            if (Modifier.isPublic(method.getModifiers())) {
                names.add(method.getName());
            }
        }
        return names;
    }

    private static void checkFiles(String readme) throws IOException {
        try (Stream<Path> files = Files.list(TESTS)) {
            for (Path file : files.collect(Collectors.toList())) {
                String name = file.getFileName().toString();
                hold("it names " + name, readme.contains("`" + name + "`"));
            }
        }
        Matcher named = Pattern.compile("`(\\w+\\.java)`").matcher(readme);
        while (named.find()) {
            hold("there is " + named.group(1), Files.exists(TESTS.resolve(named.group(1)))
                    || named.group(1).equals("RankFinder.java"));
        }
    }

    private static void checkCommands(String readme) {
        hold("it tells how to run all tests", block(readme, "sh").equals(".ci/run\n"));
        hold(".ci/run can be run", Files.isExecutable(Path.of(".ci/run")));
        Matcher test = Pattern.compile("java -cp build (\\w+)").matcher(readme);
        List<String> runs = test.results().map(found -> found.group(1)).collect(Collectors.toList());
        hold("it tells how to run one test", !runs.isEmpty());
        for (String name : runs) {
            hold("there is " + name, Files.exists(TESTS.resolve(name + ".java")));
        }
    }

    private static void hold(String what, boolean holds) {
        if (!holds) {
            wrong++;
            System.out.println("does not hold: " + what);
        }
    }
}
