import java.lang.management.ManagementFactory;

/** What a run makes is made with the object: no call may take room of its own, however often it comes. */
public final class RoomTest {
    private static final int CALLS = 512;
    /** The bytes that a new object may take: some two thousand numbers. */
    private static final long MOST_FOR_AN_OBJECT = 16_000;
    /** What the machine itself may take while it counts. */
    private static final long SLACK = 2_000;

    private static int wrong = 0;

    private static long taken() {
        return ((com.sun.management.ThreadMXBean) ManagementFactory.getThreadMXBean())
                .getCurrentThreadAllocatedBytes();
    }

    private static RelayRace dear() {
        RelayRace x = new RelayRace();
        String teams = "s7d5n8d6;n6s8d7s5;d6d6d6d7;s4n9s9d6";
        for (int i = 0; i < teams.length(); i++) x.type(teams.charAt(i));
        for (int e = 0; e < 8; e++) x.event(e % 3, 2 * e, e % 4);
        for (int k = 0; k < 4; k++) x.seen(5 * k, k, x.at(5 * k, k, 2));
        return x;
    }

    private static void callAll(RelayRace x) {
        x.digest();
        x.sheet(0, 2, 60);
        x.write(0, 0);
        x.copy(0, 0, 0, 1, 59);
        x.put(0, 2, 0, 1);
        x.get(0, 2, 0);
        x.read(0);
        x.lose(0);
        x.lose(0);
        x.event(1, 3, 0);
        x.back();
        x.undo();
        x.type('6');
        x.along(31);
        x.along(30);
        x.chance(5, 0, 0);
    }

    private static void check(String what, long bytes, long most) {
        if (bytes > most) {
            wrong++;
            System.out.println(what + " took " + bytes + " bytes, " + most + " at most");
        }
    }

    public static void main(String[] args) {
        dear().digest();
        callAll(dear());
        taken();
        long before = taken();
        RelayRace made = new RelayRace();
        check("a new object", taken() - before, MOST_FOR_AN_OBJECT);
        RelayRace x = dear();
        before = taken();
        for (int k = 0; k < CALLS; k++) callAll(x);
        check(CALLS + " rounds of calls", taken() - before, SLACK);
        if (made.count(1) != 0) wrong++;
        System.out.println(wrong == 0 ? "calls take no room" : wrong + " take too much room");
        if (wrong != 0) System.exit(1);
    }
}
