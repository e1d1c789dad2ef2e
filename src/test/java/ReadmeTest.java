import java.io.IOException;
import java.lang.reflect.Method;
import java.nio.file.Files;
import java.nio.file.Path;
import java.util.ArrayList;
import java.util.List;
import java.util.TreeSet;
import java.util.regex.Matcher;
import java.util.regex.Pattern;
import java.util.stream.Stream;

/**
 * What README.md shows is true of the class: every line of its Java is carried out, in its order, and answers what
 * stands behind it. It names the one command, every refusal and every test.
 */
public final class ReadmeTest {
    private static final Pattern MADE = Pattern.compile("RelayRace x = new RelayRace\\(\\);( +//.*)?");
    private static final Pattern TYPED = Pattern.compile(
            "for \\(char b : \"([^\"]*)\"\\.toCharArray\\(\\)\\) x\\.type\\(b\\);( +//.*)?");
    private static final Pattern CALLED = Pattern.compile("x\\.(\\w+)\\(([^)]*)\\); +// (-?\\d+)([,:] .*)?");
    private static final Pattern NAMED_TEST = Pattern.compile("`(\\w+Test)`");
    /** Refusals of each kind that README.md has to show as an answer. */
    private static final String[] REFUSALS = {"-2", "-3", "-4", "-11", "-12", "-13", "-14", "-15",
        "-2147483648", "-9223372036854775806"};

    private static final List<String> answers = new ArrayList<>();
    private static RelayRace x = null;
    private static int wrong = 0;

    private static void fail(String what) {
        wrong++;
        System.out.println("README.md: " + what);
    }

    public static void main(String[] args) throws Exception {
        String readme = Files.readString(Path.of("README.md"));
        for (String line : javaLines(readme)) carryOut(line);
        for (String refusal : REFUSALS) {
            if (!answers.contains(refusal)) fail("shows no call that is refused by " + refusal);
        }
        if (!readme.contains("\n    .ci/run\n")) fail("does not tell the command that runs all tests");
        tests(readme);
        System.out.println(wrong == 0 ? answers.size() + " answers shown are true" : wrong + " faults of README.md");
        if (wrong != 0) System.exit(1);
    }

    private static List<String> javaLines(String readme) {
        List<String> lines = new ArrayList<>();
        boolean within = false;
        for (String line : readme.split("\n")) {
            if (line.startsWith("```")) within = line.equals("```java");
            else if (within && !line.isBlank()) lines.add(line);
        }
        return lines;
    }

    private static void carryOut(String line) throws ReflectiveOperationException {
        Matcher typed = TYPED.matcher(line);
        Matcher called = CALLED.matcher(line);
        if (MADE.matcher(line).matches()) x = new RelayRace();
        else if (x == null) fail("has no object yet for: " + line);
        else if (typed.matches()) typeAll(typed.group(1));
        else if (called.matches()) call(line, called.group(1), called.group(2), called.group(3));
        else fail("shows a line without its answer: " + line);
    }

    private static void typeAll(String teams) {
        for (char b : teams.toCharArray()) x.type(b);
    }

    private static void call(String line, String name, String told, String answer)
            throws ReflectiveOperationException {
        Object[] numbers = numbers(told);
        for (Method m : RelayRace.class.getMethods()) {
            if (!m.getName().equals(name) || m.getParameterCount() != numbers.length) continue;
            String got = m.invoke(x, numbers).toString();
            if (!got.equals(answer)) fail("the class answers " + got + " at: " + line);
            answers.add(answer);
            return;
        }
        fail("there is no such call: " + line);
    }

    private static Object[] numbers(String told) {
        if (told.isEmpty()) return new Object[0];
        String[] words = told.split(", ");
        Object[] numbers = new Object[words.length];
        for (int i = 0; i < words.length; i++) numbers[i] = number(words[i]);
        return numbers;
    }

    private static int number(String word) {
        if (word.equals("RelayRace.NONE")) return RelayRace.NONE;
        if (word.matches("'.'")) return word.charAt(1);
        return Integer.parseInt(word);
    }

    private static void tests(String readme) throws IOException {
        TreeSet<String> named = new TreeSet<>();
        Matcher m = NAMED_TEST.matcher(readme);
        while (m.find()) named.add(m.group(1));
        TreeSet<String> there = new TreeSet<>();
        try (Stream<Path> files = Files.list(Path.of("src/test/java"))) {
            files.map(f -> f.getFileName().toString()).filter(f -> f.endsWith("Test.java"))
                    .forEach(f -> there.add(f.replace(".java", "")));
        }
        if (!named.equals(there)) fail("names the tests " + named + ", there are " + there);
    }
}
