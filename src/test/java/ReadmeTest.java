import java.nio.file.Files;
import java.nio.file.Path;
import java.util.Arrays;
import java.util.Set;
import java.util.TreeSet;
import java.util.regex.Matcher;
import java.util.regex.Pattern;
import java.util.stream.Collectors;
import java.util.stream.Stream;

/** What README.md says is so: each call in its examples answers as told there, and the tests that it names are all. */
public final class ReadmeTest {
    private static final Pattern MADE = Pattern.compile("CodeHunt hunt = new CodeHunt\\(\\);");
    private static final Pattern CALL = Pattern.compile("hunt\\.(\\w+)\\(([^)]*)\\); +// (-?\\d+)(:.*)?");
    private static int wrong = 0;

    private static void check(boolean right, String what) {
        if (!right) {
            wrong++;
            System.out.println("README.md: " + what);
        }
    }

    public static void main(String[] args) throws Exception {
        String text = Files.readString(Path.of("README.md"));
        examplesAnswerAsTold(text);
        everyTestIsNamed(text);
        System.out.println(wrong == 0 ? "README.md is as due" : wrong + " things in README.md are not so");
        if (wrong != 0) {
            System.exit(1);
        }
    }

    private static void examplesAnswerAsTold(String text) {
        Set<String> used = new TreeSet<>();
        Matcher blocks = Pattern.compile("(?s)```java\n(.*?)```").matcher(text);
        while (blocks.find()) {
            CodeHunt hunt = null;
            for (String line : blocks.group(1).split("\n")) {
                Matcher call = CALL.matcher(line);
                if (MADE.matcher(line).matches()) {
                    hunt = new CodeHunt();
                } else if (hunt == null || !call.matches()) {
                    check(false, "this is no call with its answer: " + line);
                } else {
                    long got = Calls.ask(hunt, call.group(1), numbers(call.group(2)));
                    check(got == Long.parseLong(call.group(3)), "it answered " + got + ": " + line);
                    used.add(call.group(1));
                }
            }
        }
        Set<String> face = Arrays.stream(CodeHunt.class.getMethods())
            .filter(method -> method.getDeclaringClass() == CodeHunt.class)
            .map(method -> method.getName()).collect(Collectors.toCollection(TreeSet::new));
        face.removeAll(used);
        check(face.isEmpty(), "no example uses " + face);
    }

    private static int[] numbers(String told) {
        return told.isEmpty() ? new int[0] : Arrays.stream(told.split(", ")).mapToInt(Integer::parseInt).toArray();
    }

    private static void everyTestIsNamed(String text) throws Exception {
        Set<String> named = new TreeSet<>();
        Matcher names = Pattern.compile("`(\\w+Test)`").matcher(text);
        while (names.find()) {
            named.add(names.group(1));
        }
        Set<String> there;
        try (Stream<Path> files = Files.list(Path.of("src/test/java"))) {
            there = files.map(file -> file.getFileName().toString()).filter(name -> name.endsWith("Test.java"))
                .map(name -> name.replace(".java", "")).collect(Collectors.toCollection(TreeSet::new));
        }
        check(named.equals(there), "it names the tests " + named + ", but there are " + there);
    }
}
