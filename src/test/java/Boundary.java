import java.lang.annotation.ElementType;
import java.lang.annotation.Retention;
import java.lang.annotation.RetentionPolicy;
import java.lang.annotation.Target;
import java.lang.reflect.InvocationTargetException;
import java.lang.reflect.Method;
import java.util.ArrayList;
import java.util.Comparator;
import java.util.List;
import java.util.function.Supplier;

/**
 * What the boundary tests share. Each of them is a static method that bears the words of the document which it
 * holds to, and whose name begins with where they stand: p07 is promise 7, s1 to s4 are the sections with ========
 * ahead of their number, r is the passage on refusals. SentencesTest looks the words up in the document.
 */
abstract class Boundary {
    @Retention(RetentionPolicy.RUNTIME)
    @Target(ElementType.METHOD)
    @interface Says {
        String value();
    }

    interface Act {
        long on(RelayRace x, int[] a);
    }

    static final int NONE = -1, BAD = -2, NOT = -3, FULL = -4;
    static final int NULL = -11, INDEX = -12, CAST = -13, STORE = -14, SIZE = -15;
    static final int LEAST = Integer.MIN_VALUE, MOST = Integer.MAX_VALUE;
    static final long LONG_BAD = Long.MIN_VALUE + 2;
    /** In place of a FINDING: count(8) stays. */
    static final int AS_BEFORE = -1;
    static final int RAIN = 0, TRIP = 1, DROP = 2;

    private static Method running;
    private static int wrong = 0;

    static List<Method> testsOf(Class<?> tests) {
        List<Method> all = new ArrayList<>();
        for (Method m : tests.getDeclaredMethods()) {
            if (m.isAnnotationPresent(Says.class)) all.add(m);
        }
        all.sort(Comparator.comparing(Method::getName));
        return all;
    }

    static void runAll(Class<?> tests) throws IllegalAccessException {
        List<Method> all = testsOf(tests);
        for (Method m : all) {
            running = m;
            try {
                m.invoke(null);
            } catch (InvocationTargetException e) {
                fail("threw " + e.getCause());
            }
        }
        System.out.println(wrong == 0 ? all.size() + " boundaries hold" : wrong + " answers are not as due");
        if (wrong != 0 || all.isEmpty()) System.exit(1);
    }

    static void fail(String what) {
        wrong++;
        System.out.println(running.getName() + " \"" + running.getAnnotation(Says.class).value() + "\": " + what);
    }

    static void due(String call, long got, long want) {
        if (got != want) fail(call + " answered " + got + ", due is " + want);
    }

    // ---- races to ask

    static RelayRace told(String teams) {
        RelayRace x = new RelayRace();
        tell(x, teams);
        return x;
    }

    static void tell(RelayRace x, String teams) {
        for (int i = 0; i < teams.length(); i++) x.type(teams.charAt(i));
    }

    /** Teams, LONG, and three numbers for each EVENT. */
    static RelayRace race(String teams, int along, int... events) {
        RelayRace x = told(teams);
        x.along(along);
        for (int i = 0; i + 2 < events.length; i += 3) x.event(events[i], events[i + 1], events[i + 2]);
        return x;
    }

    static void fill(RelayRace x, int s, int form, int... items) {
        x.sheet(s, form, items.length);
        for (int i = 0; i < items.length; i++) x.put(s, form, i, items[i]);
    }

    static final String THREE = "s5d6n7s4;d5n5s8d6;n6d7s5d5";
    static final String FOUR = "s7d5n8d6;n6s8d7s5;d6d6d6d7;s4n9s9d6";

    /** A little of all: three TEAMS, 3 EVENTS, 2 SEEN, a SHEET of each FORM, SHEET 3 LOST, the latest FINDING 5. */
    static RelayRace some() {
        RelayRace x = race(THREE, 17, DROP, 1, 1, TRIP, 4, 0, RAIN, 6, 2);
        x.seen(3, 0, 0);
        x.seen(9, 1, 2);
        fill(x, 0, 0, 1, 2, 0);
        fill(x, 1, 1, 300, -300, 5, 6, 7);
        fill(x, 2, 2, LEAST, MOST);
        x.sheet(0, 0, -1);
        return x;
    }

    /** As much as there may be: four TEAMS in 35 bytes, 8 EVENTS, 8 SEEN, SHEETS of 60 items. */
    static RelayRace full() {
        RelayRace x = race(FOUR, 20, DROP, 0, 0, DROP, 3, 1, TRIP, 5, 2, TRIP, 5, 3,
                TRIP, 9, 0, DROP, 10, 1, RAIN, 11, 0, RAIN, 20, 3);
        for (int k = 0; k < 8; k++) x.seen(k, k % 4, x.at(k, k % 4, 2));
        for (int s = 0; s < 4; s++) x.sheet(s, s % 3, 60);
        x.sheet(0, 0, -1);
        return x;
    }

    static RelayRace fresh() {
        return new RelayRace();
    }

    // ---- refusals

    /** One below the least and one above the greatest that are told, and the least and the greatest int. */
    static int[] outside(int least, int greatest) {
        return new int[] {least - 1, greatest + 1, LEAST, MOST};
    }

    /** A call is refused, and nothing is other than in a second object that was never asked, but for count(8). */
    static void refused(String call, Supplier<RelayRace> made, Act act, int[] a, long want, int finding) {
        RelayRace asked = made.get();
        RelayRace other = made.get();
        due(call, act.on(asked, a), want);
        due("count(8) behind " + call, asked.count(8), finding == AS_BEFORE ? other.count(8) : finding);
        if (!all(asked).equals(all(other))) fail(call + ", refused, changed something");
    }

    static void refused(String call, Supplier<RelayRace> made, Act act, long want, int finding) {
        refused(call, made, act, new int[0], want, finding);
    }

    /** Ranges are least, greatest for each number of a call: each of them in turn is outside, the others are good. */
    static void eachOutside(String name, Supplier<RelayRace> made, int[] good, int[] ranges, Act act, long want) {
        for (int p = 0; p < good.length; p++) {
            for (int v : outside(ranges[2 * p], ranges[2 * p + 1])) {
                int[] a = good.clone();
                a[p] = v;
                refused(written(name, a), made, act, a, want, AS_BEFORE);
            }
        }
    }

    /** The least and the greatest of each range are taken. */
    static void eachEdgeTaken(String name, Supplier<RelayRace> made, int[] good, int[] ranges, Act act) {
        for (int p = 0; p < good.length; p++) {
            for (int v : new int[] {ranges[2 * p], ranges[2 * p + 1]}) {
                int[] a = good.clone();
                a[p] = v;
                long got = act.on(made.get(), a);
                if (got < NONE) fail(written(name, a) + " answered " + got + ", and may not be refused");
            }
        }
    }

    /** Without a TEAM, or with a FAULT, there is no TEAM 0 either. */
    static void badWithoutTeams(String name, int[] good, int teamAt, Act act, long want) {
        for (int team = -1; team <= 4; team++) {
            int[] a = good.clone();
            a[teamAt] = team;
            refused(written(name, a) + " without TEAMS", Boundary::fresh, act, a, want, AS_BEFORE);
            refused(written(name, a) + " with a FAULT", () -> race(THREE + ";", 30), act, a, want, AS_BEFORE);
        }
    }

    static String written(String name, int[] a) {
        StringBuilder s = new StringBuilder(name).append('(');
        for (int i = 0; i < a.length; i++) s.append(i == 0 ? "" : ", ").append(a[i]);
        return s.append(')').toString();
    }

    // ---- all that an object tells

    /** Everything but count(8); the object is undone on the way, within the calls that an object is good for. */
    static String all(RelayRace x) {
        StringBuilder s = new StringBuilder();
        for (int w = 0; w < 8; w++) s.append(x.count(w)).append(' ');
        s.append(x.digest()).append(' ').append(x.spare(1)).append(' ');
        for (int sheet = 0; sheet < 4; sheet++) allOfSheet(x, sheet, s);
        for (int events = x.count(3); events > 0; events--) s.append(x.back()).append(' ').append(x.digest()).append(' ');
        s.append(x.forget()).append(' ');
        for (int bytes = x.count(1); bytes > 0; bytes--) s.append(x.fault()).append(' ').append(x.undo()).append(' ');
        return s.toString();
    }

    private static void allOfSheet(RelayRace x, int sheet, StringBuilder s) {
        int form = 0;
        while (form < 2 && x.put(sheet, form, -1, 0) == CAST) form++;
        int size = sizeOf(x, sheet);
        s.append("form ").append(form).append(": ");
        for (int i = 0; i < size; i++) s.append(x.get(sheet, form, i)).append(' ');
        s.append(x.lose(sheet)).append(' ');
    }

    /** By halves, so that it takes few calls: n items can be copied onto themselves just where there are so many. */
    private static int sizeOf(RelayRace x, int sheet) {
        int least = 0;
        int most = 60;
        while (least < most) {
            int n = (least + most + 1) / 2;
            if (x.copy(sheet, 0, sheet, 0, n) == 1) least = n;
            else most = n - 1;
        }
        return least;
    }

    // ---- many answers at once

    /** Metres of a TEAM behind MOMENTS from one on. */
    static void metres(RelayRace x, int team, int from, int... want) {
        for (int k = 0; k < want.length; k++) {
            due("at(" + (from + k) + ", " + team + ", 0)", x.at(from + k, team, 0), want[k]);
        }
    }

    static void ranks(RelayRace x, int moment, int... want) {
        for (int t = 0; t < want.length; t++) due("at(" + moment + ", " + t + ", 2)", x.at(moment, t, 2), want[t]);
    }

    static void lasts(RelayRace x, int team, int... want) {
        for (int leg = 0; leg < 4; leg++) due("lasted(" + team + ", " + leg + ")", x.lasted(team, leg), want[leg]);
    }

    static void wins(RelayRace x, int team, int home) {
        due("won(0)", x.won(0), team);
        due("won(1)", x.won(1), home);
    }

    static void orders(RelayRace x, int team, int... want) {
        for (int i = 0; i < 5; i++) due("order(" + team + ", " + i + ")", x.order(team, i), want[i]);
    }

    static void trains(RelayRace x, int team, int who, int moment) {
        due("train(" + team + ", 0)", x.train(team, 0), who);
        due("train(" + team + ", 1)", x.train(team, 1), moment);
    }

    static void spares(RelayRace x, int howMany, int first, int second) {
        due("spare(NONE)", x.spare(NONE), howMany);
        due("spare(0)", x.spare(0), first);
        due("spare(1)", x.spare(1), second);
    }

    static void chances(RelayRace x, int c, int team, long above, long below) {
        due("chance(" + c + ", " + team + ", 0)", x.chance(c, team, 0), above);
        due("chance(" + c + ", " + team + ", 1)", x.chance(c, team, 1), below);
    }

    static void items(RelayRace x, int s, int form, int... want) {
        for (int i = 0; i < want.length; i++) due("get(" + s + ", " + form + ", " + i + ")", x.get(s, form, i), want[i]);
    }

    static int[] ints(int... a) {
        return a;
    }
}
