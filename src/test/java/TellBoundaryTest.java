/** Boundary cases of promises 1 to 10: a new object, the text, LONG, EVENTS. */
public final class TellBoundaryTest extends Boundary {
    public static void main(String[] args) throws IllegalAccessException {
        runAll(TellBoundaryTest.class);
    }

    /** 35 bytes and as many EVENTS as told. */
    private static RelayRace fullText(int events) {
        RelayRace x = told(FOUR);
        for (int e = 0; e < events; e++) x.event(TRIP, 5 * e, e % 4);
        return x;
    }

    // ---- promise 1

    @Says("No TEAMS, LONG 30, no EVENTS;")
    static void p01_aNewObjectHasNoTeams() {
        RelayRace x = new RelayRace();
        due("count(0)", x.count(0), 0);
        due("count(1)", x.count(1), 0);
        due("fault()", x.fault(), NONE);
        due("undo()", x.undo(), NOT);
        due("home(0)", x.home(0), BAD);
    }

    @Says("No TEAMS, LONG 30, no EVENTS;")
    static void p01_aNewObjectHasLong30() {
        due("count(2)", new RelayRace().count(2), 30);
        due("along(10)", new RelayRace().along(10), 30);
        due("home(0) of d5d5d5d5", told("d5d5d5d5").home(0), 23);
    }

    @Says("No TEAMS, LONG 30, no EVENTS;")
    static void p01_aNewObjectHasNoEventsAndNothingSeen() {
        RelayRace x = new RelayRace();
        due("count(3)", x.count(3), 0);
        due("back()", x.back(), NOT);
        due("never()", x.never(), 0);
        due("count(7)", x.count(7), 0);
        due("forget()", x.forget(), 0);
    }

    @Says("all SHEETS are LOST.")
    static void p01_aNewObjectHasLostSheets() {
        RelayRace x = new RelayRace();
        due("count(8)", x.count(8), 0);
        for (int s = 0; s < 4; s++) due("read(" + s + ")", x.read(s), NULL);
        for (int s = 0; s < 4; s++) due("lose(" + s + ")", x.lose(s), NULL);
    }

    @Says("No TEAMS, LONG 30, no EVENTS;")
    static void p01_objectsDoNotShareAnything() {
        RelayRace x = new RelayRace();
        full().digest();
        if (!all(x).equals(all(new RelayRace()))) fail("another object changed this one");
    }

    // ---- promise 2

    @Says("A byte (0 to 255) comes behind the text: how many.")
    static void p02_bytes0And255AreTaken() {
        RelayRace x = new RelayRace();
        due("type(0)", x.type(0), 1);
        due("type(255)", x.type(255), 2);
        due("type(128)", x.type(128), 3);
        due("count(1)", x.count(1), 3);
        due("fault()", x.fault(), 0);
    }

    @Says("A byte (0 to 255) comes behind the text: how many.")
    static void p02_theByteComesBehind() {
        RelayRace x = told("d1");
        x.type('s');
        due("fault() of d1s", x.fault(), 3);
        x.type('9');
        due("fault() of d1s9", x.fault(), 4);
        tell(x, "n2d3");
        due("runner(0, 1, 0)", x.runner(0, 1, 0), 0);
        due("runner(0, 1, 1)", x.runner(0, 1, 1), 9);
        due("runner(0, 3, 1)", x.runner(0, 3, 1), 3);
    }

    @Says("BAD; FULL.")
    static void p02_BAD_noByte() {
        for (int b : outside(0, 255)) {
            refused("type(" + b + ")", Boundary::fresh, (x, a) -> x.type(b), BAD, AS_BEFORE);
            refused("type(" + b + ")", Boundary::some, (x, a) -> x.type(b), BAD, AS_BEFORE);
        }
    }

    @Says("BAD; FULL.")
    static void p02_BAD_aNumberThatIsAByteModulo256() {
        for (int b : new int[] {'s' + 256, 's' - 256, 's' + 65536, 's' | LEAST, 512}) {
            refused("type(" + b + ")", Boundary::fresh, (x, a) -> x.type(b), BAD, AS_BEFORE);
        }
    }

    @Says("BAD; FULL.")
    static void p02_FULL_at35Bytes() {
        RelayRace x = told(FOUR.substring(0, 34));
        due("type('6'), the 35th", x.type('6'), 35);
        due("type('6'), a 36th", x.type('6'), FULL);
        for (int b : new int[] {0, ';', 's', 255}) {
            refused("type(" + b + ") at 35", Boundary::full, (y, a) -> y.type(b), FULL, AS_BEFORE);
        }
    }

    @Says("BAD; FULL.")
    static void p02_BAD_aheadOf_FULL() {
        for (int b : outside(0, 255)) {
            refused("type(" + b + ") at 35", Boundary::full, (x, a) -> x.type(b), BAD, AS_BEFORE);
        }
    }

    // ---- promise 3

    @Says("The text is empty: how many bytes it had.")
    static void p03_anEmptyTextHadNone() {
        RelayRace x = new RelayRace();
        due("wipe()", x.wipe(), 0);
        due("wipe() again", x.wipe(), 0);
        due("count(1)", x.count(1), 0);
    }

    @Says("The text is empty: how many bytes it had.")
    static void p03_aFullTextHad35() {
        RelayRace x = fullText(0);
        due("wipe()", x.wipe(), 35);
        due("count(0)", x.count(0), 0);
        due("count(1)", x.count(1), 0);
        due("fault()", x.fault(), NONE);
        due("undo()", x.undo(), NOT);
        for (int n = 1; n <= 35; n++) due("type", x.type('d'), n);
    }

    @Says("The text is empty: how many bytes it had.")
    static void p03_aFaultyTextHadItsBytesToo() {
        due("wipe() of one byte", told("x").wipe(), 1);
        due("wipe() of a text not ended", told("d5d").wipe(), 3);
    }

    @Says("The text is empty: how many bytes it had.")
    static void p03_onlyTheTextIsEmpty() {
        RelayRace x = full();
        x.wipe();
        due("count(2)", x.count(2), 20);
        due("count(3)", x.count(3), 8);
        due("count(7)", x.count(7), 8);
        due("count(8)", x.count(8), 5);
        due("lose(0)", x.lose(0), 60);
    }

    // ---- promise 4

    @Says("The last byte of the text is undone: how many are left.")
    static void p04_from35BytesToNone() {
        RelayRace x = fullText(0);
        for (int n = 34; n >= 0; n--) {
            due("undo()", x.undo(), n);
            due("count(1)", x.count(1), n);
        }
        due("count(0)", x.count(0), 0);
    }

    @Says("The last byte of the text is undone: how many are left.")
    static void p04_theLastByteAndNoOther() {
        RelayRace x = told("d1d2d3d4;d5d6d7d8");
        due("undo()", x.undo(), 16);
        due("type('9')", x.type('9'), 17);
        due("runner(1, 3, 1)", x.runner(1, 3, 1), 9);
        due("runner(1, 2, 1)", x.runner(1, 2, 1), 7);
        for (int k = 0; k < 9; k++) x.undo();
        due("count(0)", x.count(0), 1);
        due("runner(0, 3, 1)", x.runner(0, 3, 1), 4);
        due("at(0, 0, 0)", x.at(0, 0, 0), 1);
    }

    @Says("The last byte of the text is undone: how many are left.")
    static void p04_theTeamsRunByWhatWasToldMeanwhile() {
        RelayRace x = told("d5d5d5d5;");
        x.along(10);
        x.event(TRIP, 0, 0);
        due("undo()", x.undo(), 8);
        metres(x, 0, 0, 0, 5, 10, 15);
        due("home(0)", x.home(0), 8);
    }

    @Says("NOT: it is empty.")
    static void p04_NOT_anEmptyText() {
        refused("undo()", Boundary::fresh, (x, a) -> x.undo(), NOT, AS_BEFORE);
        RelayRace x = told("d");
        due("undo() of one byte", x.undo(), 0);
        due("undo() of none", x.undo(), NOT);
        due("undo() of none again", x.undo(), NOT);
        x = fullText(3);
        x.wipe();
        due("undo() behind wipe()", x.undo(), NOT);
    }

    // ---- promise 5

    @Says("The FAULT; NONE.")
    static void p05_theLeastAndTheGreatestFault() {
        due("fault() of x", told("x").fault(), 0);
        due("fault() of d", told("d").fault(), 1);
        due("fault() of 34 bytes", told(FOUR.substring(0, 34)).fault(), 34);
        due("fault() at the 35th byte", told(FOUR.substring(0, 34) + "0").fault(), 34);
        due("fault() at the 34th byte", told(FOUR.substring(0, 33) + "x6").fault(), 33);
    }

    @Says("The FAULT; NONE.")
    static void p05_NONE_whereTheTextIsWell() {
        for (int n : new int[] {0, 8, 17, 26, 35}) due("fault() of " + n, told(FOUR.substring(0, n)).fault(), NONE);
    }

    @Says("The FAULT; NONE.")
    static void p05_bytesAbove127AreNotTakenForOthers() {
        for (int b : new int[] {'s' | 128, 'd' | 128, 'n' | 128}) {
            RelayRace x = new RelayRace();
            x.type(b);
            due("fault() of " + b, x.fault(), 0);
        }
        RelayRace x = told("d");
        x.type('5' | 128);
        due("fault()", x.fault(), 1);
        x = told("d5d5d5d5");
        x.type(';' | 128);
        due("fault()", x.fault(), 8);
    }

    // ---- promise 6

    @Says("The sort (what = 0: 0 s, 1 d, 2 n), PACE (1) of a RUNNER as told.")
    static void p06_firstAndLastRunnersOfNoneToFourTeams() {
        RelayRace x = told("s1d2n3s4;d9n8s7d6;n1s9d1n9;s5s5d6n7");
        int[][] edges = {{0, 0, 0, 1}, {0, 3, 0, 4}, {1, 0, 1, 9}, {1, 3, 1, 6}, {2, 0, 2, 1}, {2, 3, 2, 9},
            {3, 0, 0, 5}, {3, 1, 0, 5}, {3, 2, 1, 6}, {3, 3, 2, 7}};
        for (int[] e : edges) {
            due("runner(" + e[0] + ", " + e[1] + ", 0)", x.runner(e[0], e[1], 0), e[2]);
            due("runner(" + e[0] + ", " + e[1] + ", 1)", x.runner(e[0], e[1], 1), e[3]);
        }
    }

    @Says("The sort (what = 0: 0 s, 1 d, 2 n), PACE (1) of a RUNNER as told.")
    static void p06_asToldWhateverElseWasAsked() {
        RelayRace x = some();
        for (int leg = 0; leg < 4; leg++) {
            x.was(0, leg, 0);
            x.was(0, leg, 1);
            x.ask(0, leg);
        }
        x.train(0, 0);
        x.order(0, 0);
        int[] sorts = {0, 1, 2, 0};
        int[] paces = {5, 6, 7, 4};
        for (int leg = 0; leg < 4; leg++) {
            due("runner(0, " + leg + ", 0)", x.runner(0, leg, 0), sorts[leg]);
            due("runner(0, " + leg + ", 1)", x.runner(0, leg, 1), paces[leg]);
        }
    }

    @Says("BAD.")
    static void p06_BAD_eachNumberOutside() {
        Act act = (x, a) -> x.runner(a[0], a[1], a[2]);
        eachOutside("runner", Boundary::some, ints(0, 0, 0), ints(0, 2, 0, 3, 0, 1), act, BAD);
        eachOutside("runner", Boundary::full, ints(3, 3, 1), ints(0, 3, 0, 3, 0, 1), act, BAD);
        eachEdgeTaken("runner", Boundary::full, ints(0, 0, 0), ints(0, 3, 0, 3, 0, 1), act);
        badWithoutTeams("runner", ints(0, 0, 0), 0, act, BAD);
    }

    // ---- promise 7

    @Says("LONG: what it was.")
    static void p07_longFrom10To60() {
        RelayRace x = told("d5d5d5d5");
        due("along(10)", x.along(10), 30);
        due("home(0) by 10", x.home(0), 7);
        due("along(60)", x.along(60), 10);
        due("home(0) by 60", x.home(0), 47);
        due("along(60) again", x.along(60), 60);
        due("along(11)", x.along(11), 60);
        due("along(59)", x.along(59), 11);
        due("count(2)", x.count(2), 59);
    }

    @Says("BAD.")
    static void p07_BAD_below10AndAbove60() {
        eachOutside("along", Boundary::fresh, ints(30), ints(10, 60), (x, a) -> x.along(a[0]), BAD);
        eachOutside("along", Boundary::some, ints(30), ints(10, 60), (x, a) -> x.along(a[0]), BAD);
        refused("along(0)", Boundary::some, (x, a) -> x.along(0), BAD, AS_BEFORE);
    }

    // ---- promise 8

    @Says("An EVENT more: how many.")
    static void p08_theFirstToTheEighth() {
        RelayRace x = told("d5d5d5d5");
        for (int n = 1; n <= 8; n++) {
            due("event, the " + n + "th", x.event(TRIP, n - 1, 0), n);
            due("stood(0)", x.stood(0), n);
        }
    }

    @Says("An EVENT more: how many.")
    static void p08_theLeastAndTheGreatestNumbers() {
        Act act = (x, a) -> x.event(a[0], a[1], a[2]);
        eachEdgeTaken("event", Boundary::fresh, ints(1, 5, 1), ints(0, 2, 0, 47, 0, 3), act);
        RelayRace x = told("d1d1d1d1;d1d1d1d1;d1d1d1d1;d1d1d1d1");
        due("event(2, 47, 3)", x.event(DROP, 47, 3), 1);
        due("stood(3)", x.stood(3), 1);
        due("event(0, 0, 0)", x.event(RAIN, 0, 0), 2);
        due("event(1, 0, 0), a like one is one more", x.event(TRIP, 0, 0), 3);
        due("event(1, 0, 0), a like one is one more", x.event(TRIP, 0, 0), 4);
    }

    @Says("An EVENT more: how many.")
    static void p08_anEventOfATeamThatThereIsNot() {
        RelayRace x = told("d5d5d5d5");
        due("event(1, 0, 3)", x.event(TRIP, 0, 3), 1);
        metres(x, 0, 0, 5, 10);
        tell(x, ";d5d5d5d5;d5d5d5d5;d5d5d5d5");
        metres(x, 3, 0, 0, 5);
        due("event(1, 0, 0) without a TEAM", new RelayRace().event(TRIP, 0, 0), 1);
    }

    @Says("BAD; FULL.")
    static void p08_BAD_eachNumberOutside() {
        Act act = (x, a) -> x.event(a[0], a[1], a[2]);
        eachOutside("event", Boundary::some, ints(TRIP, 5, 1), ints(0, 2, 0, 47, 0, 3), act, BAD);
        eachOutside("event", Boundary::fresh, ints(RAIN, 0, 0), ints(0, 2, 0, 47, 0, 3), act, BAD);
        eachOutside("event", Boundary::fresh, ints(DROP, 47, 3), ints(0, 2, 0, 47, 0, 3), act, BAD);
    }

    @Says("BAD; FULL.")
    static void p08_FULL_aNinth() {
        refused("event(1, 5, 1), a ninth", Boundary::full, (x, a) -> x.event(TRIP, 5, 1), FULL, AS_BEFORE);
        refused("event(0, 0, 0), a ninth", Boundary::full, (x, a) -> x.event(RAIN, 0, 0), FULL, AS_BEFORE);
        RelayRace x = full();
        x.back();
        due("event, an eighth", x.event(TRIP, 5, 1), 8);
        due("event, a ninth", x.event(TRIP, 5, 1), FULL);
    }

    @Says("BAD; FULL.")
    static void p08_BAD_aheadOf_FULL() {
        Act act = (x, a) -> x.event(a[0], a[1], a[2]);
        eachOutside("event, a ninth,", Boundary::full, ints(TRIP, 5, 1), ints(0, 2, 0, 47, 0, 3), act, BAD);
    }

    // ---- promise 9

    @Says("The last EVENT is undone: how many are left.")
    static void p09_from8EventsToNone() {
        RelayRace x = told("d5d5d5d5");
        for (int e = 0; e < 8; e++) x.event(TRIP, e, 0);
        for (int n = 7; n >= 0; n--) {
            due("back()", x.back(), n);
            due("count(3)", x.count(3), n);
            due("stood(0)", x.stood(0), n);
        }
        metres(x, 0, 0, 5, 10);
    }

    @Says("The last EVENT is undone: how many are left.")
    static void p09_theLastEventAndNoOther() {
        RelayRace x = race("d5d5d5d5", 60, TRIP, 0, 0, DROP, 2, 0, RAIN, 6, 0);
        due("back(), the RAIN", x.back(), 2);
        metres(x, 0, 0, 0, 5, 5, 5, 5, 10, 15);
        due("back(), the DROP", x.back(), 1);
        metres(x, 0, 0, 0, 5, 10, 15);
        due("event in its place", x.event(TRIP, 1, 0), 2);
        metres(x, 0, 0, 0, 0, 5, 10);
    }

    @Says("NOT: there is none.")
    static void p09_NOT_noEvent() {
        refused("back()", Boundary::fresh, (x, a) -> x.back(), NOT, AS_BEFORE);
        refused("back()", () -> fullText(0), (x, a) -> x.back(), NOT, AS_BEFORE);
        RelayRace x = race("d5d5d5d5", 30, TRIP, 0, 0);
        due("back() of one", x.back(), 0);
        due("back() of none", x.back(), NOT);
        due("back() of none again", x.back(), NOT);
    }

    // ---- promise 10

    @Says("EVENTS from a SHEET: its items, three for each,")
    static void p10_kindMomentNumberOfEach() {
        for (int form = 0; form < 3; form++) {
            RelayRace x = told("d5d5d5d5;d5d5d5d5");
            fill(x, 0, form, TRIP, 0, 1, DROP, 2, 0, RAIN, 5, 3);
            due("read(0)", x.read(0), 3);
            due("count(3)", x.count(3), 3);
            metres(x, 0, 0, 5, 10, 10, 10, 10, 14);
            metres(x, 1, 0, 0, 5, 10, 15, 20, 24);
            due("back(), the RAIN", x.back(), 2);
            metres(x, 0, 4, 10, 15);
            items(x, 0, form, TRIP, 0, 1, DROP, 2, 0, RAIN, 5, 3);
        }
    }

    @Says("EVENTS from a SHEET: its items, three for each,")
    static void p10_fromEachSheet() {
        for (int s = 0; s < 4; s++) {
            RelayRace x = told("d5d5d5d5");
            fill(x, s, 0, TRIP, 0, 0);
            due("read(" + s + ")", x.read(s), 1);
            metres(x, 0, 0, 0, 5);
        }
    }

    @Says("as many as are whole,")
    static void p10_of0To60Items() {
        int[] sizes = {0, 1, 2, 3, 4, 5, 6, 20, 21, 23, 24, 26, 27, 60};
        int[] whole = {0, 0, 0, 1, 1, 1, 2, 6, 7, 7, 8, 8, 8, 8};
        for (int k = 0; k < sizes.length; k++) {
            RelayRace x = new RelayRace();
            x.sheet(2, 1, sizes[k]);
            due("read(2) of " + sizes[k] + " items", x.read(2), whole[k]);
            due("count(3)", x.count(3), whole[k]);
        }
    }

    @Says("as long as each may be: how many.")
    static void p10_endedByANumberThatMayNotBe() {
        int[][] ends = {{3, 0, 0}, {-1, 0, 0}, {1, 48, 0}, {1, -1, 0}, {1, 0, 4}, {1, 0, -1}, {0, 0, 4}, {0, 0, -1},
            {LEAST, 0, 0}, {MOST, 0, 0}, {1, LEAST, 0}, {1, MOST, 0}, {1, 0, LEAST}, {1, 0, MOST}};
        for (int[] e : ends) {
            RelayRace x = told("d5d5d5d5");
            fill(x, 0, 2, TRIP, 0, 0, e[0], e[1], e[2], TRIP, 2, 0);
            due("read(0) with " + written("", e), x.read(0), 1);
            metres(x, 0, 0, 0, 5, 10);
            fill(x, 1, 2, e[0], e[1], e[2], TRIP, 2, 0);
            due("read(1) with " + written("", e) + " first", x.read(1), 0);
            due("count(3)", x.count(3), 1);
        }
    }

    @Says("as long as each may be: how many.")
    static void p10_theGreatestNumbersMayBe() {
        RelayRace x = told("d1d1d1d1;d1d1d1d1;d1d1d1d1;d1d1d1d1");
        fill(x, 0, 0, DROP, 47, 3, RAIN, 47, 3, TRIP, 0, 0);
        due("read(0)", x.read(0), 3);
        due("stood(3)", x.stood(3), 1);
        due("stood(0)", x.stood(0), 1);
    }

    @Says("as long as each may be: how many.")
    static void p10_numbersThatAnItemCannotHold() {
        RelayRace x = told("d5d5d5d5");
        // 257, 256 and 512 are 1, 0 and 0 as bytes; 200 is below 0.
        fill(x, 0, 0, 257, 256, 512, 1, 200, 0);
        due("read(0)", x.read(0), 1);
        metres(x, 0, 0, 0, 5, 10);
        fill(x, 1, 1, 65537, 65536 + 1, 131072, 1, 40000, 0);
        due("read(1)", x.read(1), 1);
        metres(x, 0, 0, 0, 0, 5);
        fill(x, 2, 2, 257, 1, 0);
        due("read(2)", x.read(2), 0);
    }

    @Says("as long as each may be: how many.")
    static void p10_behindThoseToldUpTo8() {
        for (int before = 0; before <= 8; before++) {
            RelayRace x = told("d5d5d5d5");
            for (int e = 0; e < before; e++) x.event(TRIP, e, 0);
            fill(x, 0, 0, TRIP, 10, 0, TRIP, 11, 0);
            int more = Math.min(2, 8 - before);
            due("read(0) behind " + before, x.read(0), more);
            due("count(3)", x.count(3), before + more);
            due("stood(0)", x.stood(0), before + more);
            if (before > 0) due("at(0, 0, 0), the first told stays", x.at(0, 0, 0), 0);
        }
    }

    @Says("BAD; NULL.")
    static void p10_BAD_noSuchSheet() {
        eachOutside("read", Boundary::some, ints(0), ints(0, 3), (x, a) -> x.read(a[0]), BAD);
        eachOutside("read", Boundary::full, ints(0), ints(0, 3), (x, a) -> x.read(a[0]), BAD);
        eachOutside("read", Boundary::fresh, ints(0), ints(0, 3), (x, a) -> x.read(a[0]), BAD);
    }

    @Says("BAD; NULL.")
    static void p10_NULL_aLostSheet() {
        refused("read(3)", Boundary::some, (x, a) -> x.read(3), NULL, 1);
        for (int s = 0; s < 4; s++) {
            int lost = s;
            refused("read(" + s + ") of a new object", Boundary::fresh, (x, a) -> x.read(lost), NULL, 1);
        }
        refused("read(0), LOST again, 8 told", () -> {
            RelayRace x = full();
            x.lose(0);
            return x;
        }, (x, a) -> x.read(0), NULL, 1);
    }
}
