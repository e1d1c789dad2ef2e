import java.lang.management.ManagementFactory;

/**
 * All calls of one run share one room of some 7.3 million fields and elements. A run of 512 calls may take but a small
 * part of it, however dear the calls are.
 */
public final class RoomTest {
    /** Rounds of sixteen calls, so that an object is asked no more often than it is good for. */
    private static final int ROUNDS = 28;
    /** The bytes that a new object may take: some four thousand numbers. */
    private static final long MOST_FOR_AN_OBJECT = 16_000;
    /** The bytes that all its calls may take together: a hundredth of the room. */
    private static final long MOST_FOR_ITS_CALLS = 292_000;

    private static int wrong = 0;

    private static long taken() {
        return ((com.sun.management.ThreadMXBean) ManagementFactory.getThreadMXBean())
                .getCurrentThreadAllocatedBytes();
    }

    private static RelayRace dear() {
        RelayRace x = new RelayRace();
        String teams = "s7d5n8d6;n6s8d7s5;d6d6d6d7;s4n9s9d6";
        for (int i = 0; i < teams.length(); i++) x.type(teams.charAt(i));
        for (int e = 0; e < 8; e++) x.event(e % 3, 2 * e, e % 4);
        for (int k = 0; k < 4; k++) x.seen(5 * k, k, x.at(5 * k, k, 2));
        return x;
    }

    private static void callAll(RelayRace x) {
        x.digest();
        x.sheet(0, 2, 60);
        x.write(0, 0);
        x.copy(0, 0, 0, 1, 59);
        x.put(0, 2, 0, 1);
        x.get(0, 2, 0);
        x.read(0);
        x.lose(0);
        x.lose(0);
        x.event(1, 3, 0);
        x.back();
        x.undo();
        x.type('6');
        x.along(31);
        x.along(30);
        x.chance(5, 0, 0);
    }

    private static void check(String what, long bytes, long most) {
        if (bytes > most) {
            wrong++;
            System.out.println(what + " took " + bytes + " bytes, " + most + " at most");
        }
    }

    public static void main(String[] args) {
        dear().digest();
        callAll(dear());
        taken();
        long before = taken();
        RelayRace made = new RelayRace();
        check("a new object", taken() - before, MOST_FOR_AN_OBJECT);
        RelayRace x = dear();
        before = taken();
        for (int k = 0; k < ROUNDS; k++) callAll(x);
        check("the calls of an object", taken() - before, MOST_FOR_ITS_CALLS);
        if (made.count(1) != 0) wrong++;
        System.out.println(wrong == 0 ? "calls take little room" : wrong + " take too much room");
        if (wrong != 0) System.exit(1);
    }
}
