import java.io.IOException;
import java.lang.reflect.Method;
import java.nio.file.Files;
import java.nio.file.Path;
import java.util.Arrays;
import java.util.LinkedHashMap;
import java.util.List;
import java.util.Map;

/**
 * The boundary tests quote the document word by word, each from the place that its name tells, and leave no sentence
 * of it without a test.
 */
public final class SentencesTest {
    private static final Path DOCUMENT = Path.of("../shared/DOC.md");
    private static final List<Class<?>> TESTS = List.of(TermsBoundaryTest.class, TellBoundaryTest.class,
            MomentsBoundaryTest.class, PlansBoundaryTest.class, SeenBoundaryTest.class, SheetsBoundaryTest.class);
    private static final int PROMISES = 36;

    private static int wrong = 0;

    private static void fail(String what) {
        wrong++;
        System.out.println(what);
    }

    public static void main(String[] args) throws IOException {
        if (!Files.isReadable(DOCUMENT)) {
            System.out.println("there is no document to look the words up in");
            return;
        }
        Map<String, String> parts = partsOf(Files.readString(DOCUMENT).replaceAll("\\s+", " "));
        Map<String, boolean[]> quoted = new LinkedHashMap<>();
        for (String part : parts.keySet()) quoted.put(part, new boolean[parts.get(part).length()]);
        int tests = 0;
        for (Class<?> c : TESTS) {
            for (Method m : Boundary.testsOf(c)) {
                tests++;
                quote(m, parts, quoted);
            }
        }
        for (String part : parts.keySet()) lookForMore(part, parts.get(part), quoted.get(part));
        System.out.println(wrong == 0 ? tests + " tests quote every sentence" : wrong + " faults of what is quoted");
        if (wrong != 0) System.exit(1);
    }

    private static void quote(Method m, Map<String, String> parts, Map<String, boolean[]> quoted) {
        String part = m.getName().substring(0, m.getName().indexOf('_'));
        String words = m.getAnnotation(Boundary.Says.class).value();
        int from = parts.containsKey(part) ? parts.get(part).indexOf(words) : -1;
        if (from < 0) {
            fail(m.getName() + " quotes what is not there: " + words);
            return;
        }
        Arrays.fill(quoted.get(part), from, from + words.length(), true);
    }

    private static void lookForMore(String part, String text, boolean[] quoted) {
        StringBuilder rest = new StringBuilder();
        for (int i = 0; i < text.length(); i++) {
            if (!quoted[i]) rest.append(text.charAt(i));
        }
        if (!rest.toString().isBlank()) fail(part + " has words without a test: " + rest.toString().trim());
    }

    /** The sections and promises by the names that tests begin with, without what only tells the interface. */
    private static Map<String, String> partsOf(String doc) {
        Map<String, String> parts = new LinkedHashMap<>();
        String whatItIs = between(doc, "======== 1 ", "## The public face");
        parts.put("s1", whatItIs + " " + withoutMarks(between(doc, "## Terms", "======== 2 ")));
        parts.put("s2", between(doc, "======== 2 ", "======== 3 "));
        parts.put("s3", between(doc, "======== 3 ", "======== 4 "));
        parts.put("s4", withoutMarks(between(doc, "======== 4 ", "Refusals, ")));
        parts.put("r", "Refusals, " + between(doc, "Refusals, ", "Ahead of the calls"));
        for (int n = 1; n <= PROMISES; n++) {
            String end = n < PROMISES ? "## Promise " + (n + 1) + ":" : "## Not promised";
            String promise = between(doc, "## Promise " + n + ":", end);
            parts.put(String.format("p%02d", n), promise.substring(promise.indexOf("`: ") + 3));
        }
        return parts;
    }

    private static String withoutMarks(String text) {
        return text.replace("```text", "").replace("```", "");
    }

    private static String between(String doc, String from, String to) {
        int begin = doc.indexOf(from);
        int end = doc.indexOf(to, begin + from.length());
        if (begin < 0 || end < 0) throw new IllegalStateException("the document has no " + from + " .. " + to);
        return doc.substring(begin + from.length(), end);
    }
}
