import java.lang.reflect.Constructor;
import java.lang.reflect.Field;
import java.lang.reflect.Method;
import java.lang.reflect.Modifier;
import java.nio.file.Files;
import java.nio.file.Path;
import java.util.ArrayList;
import java.util.HashSet;
import java.util.List;
import java.util.Set;
import java.util.TreeSet;
import java.util.regex.Matcher;
import java.util.regex.Pattern;

/** The face is the document's and no more, and the source keeps to the rules that can be looked up in it. */
public final class FaceTest {
    private static final String[] FACE = {
        "int type(int)", "int wipe()", "int undo()", "int fault()", "int runner(int,int,int)", "int along(int)",
        "int event(int,int,int)", "int back()", "int read(int)", "int at(int,int,int)", "int home(int)",
        "int lasted(int,int)", "int won(int)", "int changes()", "int leader(int)", "int stood(int)",
        "int order(int,int)", "int train(int,int)", "int fit(int)", "int spare(int)", "int seen(int,int,int)",
        "int forget()", "int never()", "int was(int,int,int)", "int ask(int,int)", "long chance(int,int,int)",
        "int years(int,int,int)", "int sheet(int,int,int)", "int lose(int)", "int put(int,int,int,int)",
        "int get(int,int,int)", "int copy(int,int,int,int,int)", "int write(int,int)", "int count(int)",
        "long digest()"};
    private static final String[] NEVER_IN_THE_SOURCE = {
        "\\bthrow\\b", "\\btry\\b", "\\bcatch\\b", "\\bsynchronized\\b", "\\bassert\\b", "->", "::", "\\bpackage\\b",
        "Exact\\b", "\\bthread\\b", "\\bSystem\\.(?!arraycopy)", "\\bRandom\\b", "\\bprotected\\b", "\\bvar\\b",
        "\\bimport (?!java\\.util\\.(Arrays|ArrayList|List|Iterator);)", "\\bArrays\\.(?!fill|copyOf|copyOfRange)",
        "\\bMath\\.(?!min|max|abs|floorDiv|floorMod)", "\\b(Long|Integer)\\.(?!bitCount|compare)"};

    private static final int NO_LINE = -1;

    private static int wrong = 0;

    private static void fail(String what) {
        wrong++;
        System.out.println(what);
    }

    public static void main(String[] args) throws Exception {
        constants();
        members();
        nested();
        source();
        System.out.println(wrong == 0 ? "the face is the document's" : wrong + " faults of the face or the source");
        if (wrong != 0) System.exit(1);
    }

    private static void constants() {
        if (RelayRace.NONE != -1 || RelayRace.BAD != -2 || RelayRace.NOT != -3 || RelayRace.FULL != -4) {
            fail("a constant is not the document's");
        }
    }

    private static String written(Method m) {
        List<String> of = new ArrayList<>();
        for (Class<?> c : m.getParameterTypes()) of.add(c.getName());
        return m.getReturnType().getName() + " " + m.getName() + "(" + String.join(",", of) + ")";
    }

    private static void members() {
        Class<?> c = RelayRace.class;
        if (!Modifier.isPublic(c.getModifiers()) || !Modifier.isFinal(c.getModifiers())) fail("not public and final");
        Set<String> open = new TreeSet<>();
        Set<String> names = new HashSet<>();
        for (Method m : c.getDeclaredMethods()) {
            if (Modifier.isPrivate(m.getModifiers())) continue;
            open.add(written(m));
            names.add(m.getName());
            if (!Modifier.isPublic(m.getModifiers()) || Modifier.isStatic(m.getModifiers())) fail("face: " + m);
        }
        if (!open.equals(new TreeSet<>(List.of(FACE)))) fail("the methods are " + open);
        for (Method m : c.getDeclaredMethods()) {
            if (Modifier.isPrivate(m.getModifiers()) && names.contains(m.getName())) fail("a private " + m.getName());
            if (m.getParameterCount() > 7) fail("more than seven parameters: " + m);
        }
        Set<String> fields = new TreeSet<>();
        int own = 0;
        for (Field f : c.getDeclaredFields()) {
            if (!Modifier.isPrivate(f.getModifiers())) fields.add(f.getName());
            if (Modifier.isStatic(f.getModifiers()) && !Modifier.isFinal(f.getModifiers())) fail("static: " + f);
            if (!Modifier.isStatic(f.getModifiers())) own++;
        }
        if (!fields.equals(new TreeSet<>(List.of("NONE", "BAD", "NOT", "FULL")))) fail("the constants are " + fields);
        if (own > 20) fail(own + " fields");
        Constructor<?>[] made = c.getDeclaredConstructors();
        if (made.length != 1 || made[0].getParameterCount() != 0 || !Modifier.isPublic(made[0].getModifiers())) {
            fail("the constructors");
        }
    }

    private static void nested() {
        Class<?>[] inside = RelayRace.class.getDeclaredClasses();
        if (inside.length > 11) fail(inside.length + " classes inside");
        for (Class<?> c : inside) {
            if (!Modifier.isStatic(c.getModifiers())) fail(c + " is not static");
            if (Modifier.isPublic(c.getModifiers()) || Modifier.isProtected(c.getModifiers())) fail(c + " is seen");
        }
    }

    private static void source() throws Exception {
        String text = Files.readString(Path.of("src/main/java/RelayRace.java"));
        for (int i = 0; i < text.length(); i++) {
            if (text.charAt(i) > 126) fail("a sign above 126 in the source");
        }
        String code = text.replaceAll("(?s)/\\*.*?\\*/", "").replaceAll("//[^\n]*", "");
        for (String never : NEVER_IN_THE_SOURCE) {
            Matcher m = Pattern.compile(never).matcher(code);
            if (m.find()) fail("the source has " + m.group() + " at: " + code.substring(m.start(), Math.min(code.length(), m.start() + 40)));
        }
        shortMethods(text);
    }

    /** Methods stand at four or eight blanks and end with a brace at the same place. */
    private static void shortMethods(String text) {
        String[] lines = text.split("\n");
        for (String blanks : new String[] {"    ", "        "}) {
            String head = blanks + "(public |private |static )*(int|long|boolean|void|RelayRace)\\b.*\\) \\{";
            int begun = NO_LINE;
            for (int i = 0; i < lines.length; i++) {
                if (lines[i].matches(head)) begun = i;
                if (!lines[i].equals(blanks + "}") || begun == NO_LINE) continue;
                if (i - begun > 60) fail("a long method: " + lines[begun].trim());
                begun = NO_LINE;
            }
        }
    }
}
