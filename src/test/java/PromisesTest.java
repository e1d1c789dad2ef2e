/** Each promise of the document with answers worked out by hand: ordinary inputs, edges, refusals. */
public final class PromisesTest {
    private static final int NONE = -1, BAD = -2, NOT = -3, FULL = -4;
    private static final int NULL = -11, INDEX = -12, CAST = -13, STORE = -14, SIZE = -15;
    private static final int LEAST = Integer.MIN_VALUE, MOST = Integer.MAX_VALUE;
    private static final long LONG_BAD = Long.MIN_VALUE + 2;

    private static int wrong = 0;
    private static int promise = 0;

    private static void due(String what, long got, long want) {
        if (got != want) {
            wrong++;
            System.out.println("promise " + promise + ": " + what + " answered " + got + ", due is " + want);
        }
    }

    private static RelayRace told(String teams) {
        RelayRace x = new RelayRace();
        tell(x, teams);
        return x;
    }

    private static void tell(RelayRace x, String teams) {
        for (int i = 0; i < teams.length(); i++) x.type(teams.charAt(i));
    }

    /** Metres of a team behind moment 0 on. */
    private static void metres(RelayRace x, int team, int... want) {
        for (int m = 0; m < want.length; m++) due("at(" + m + ", " + team + ", 0)", x.at(m, team, 0), want[m]);
    }

    private static void ranks(RelayRace x, int moment, int... want) {
        for (int t = 0; t < want.length; t++) due("at(" + moment + ", " + t + ", 2)", x.at(moment, t, 2), want[t]);
    }

    public static void main(String[] args) {
        newObject();
        type();
        wipe();
        undo();
        fault();
        runner();
        along();
        event();
        back();
        read();
        atStrides();
        atEvents();
        atRanks();
        home();
        lasted();
        won();
        changes();
        leader();
        stood();
        order();
        train();
        fit();
        spare();
        seen();
        forget();
        never();
        was();
        ask();
        chance();
        years();
        sheet();
        lose();
        put();
        get();
        copy();
        write();
        count();
        digest();
        System.out.println(wrong == 0 ? "all promises hold" : wrong + " answers are not as due");
        if (wrong != 0) System.exit(1);
    }

    private static void newObject() {
        promise = 1;
        RelayRace x = new RelayRace();
        int[] counts = {0, 0, 30, 0, 0, 0, 0, 0, 0};
        for (int w = 0; w <= 8; w++) due("count(" + w + ")", x.count(w), counts[w]);
        for (int s = 0; s < 4; s++) due("lose(" + s + ")", x.lose(s), NULL);
    }

    private static void type() {
        promise = 2;
        RelayRace x = new RelayRace();
        for (int b : new int[] {-1, 256, LEAST, MOST}) due("type(" + b + ")", x.type(b), BAD);
        due("count(1)", x.count(1), 0);
        due("type(0)", x.type(0), 1);
        due("type(255)", x.type(255), 2);
        for (int n = 3; n <= 35; n++) due("type('s')", x.type('s'), n);
        due("type('s') at 35", x.type('s'), FULL);
        due("type(256) at 35", x.type(256), BAD);
        due("count(1)", x.count(1), 35);
    }

    private static void wipe() {
        promise = 3;
        RelayRace x = told("d5d5d5d5;d1");
        x.event(1, 0, 0);
        due("wipe()", x.wipe(), 11);
        due("wipe()", x.wipe(), 0);
        due("fault()", x.fault(), NONE);
        due("count(0)", x.count(0), 0);
        due("count(3)", x.count(3), 1);
        tell(x, "d6d6d6d6");
        due("runner(0, 0, 1)", x.runner(0, 0, 1), 6);
    }

    private static void undo() {
        promise = 4;
        RelayRace x = new RelayRace();
        due("undo()", x.undo(), NOT);
        tell(x, "d5d5d5d5;");
        due("count(0)", x.count(0), 0);
        due("undo()", x.undo(), 8);
        due("count(0)", x.count(0), 1);
        due("at(0, 0, 0)", x.at(0, 0, 0), 5);
        for (int n = 7; n >= 0; n--) due("undo()", x.undo(), n);
        due("undo()", x.undo(), NOT);
        due("count(0)", x.count(0), 0);
    }

    private static void fault() {
        promise = 5;
        String[] texts = {"", "s", "s1", "s1d", "s1d2n3s4", "s1d2n3s4;", "s1d2n3s4;d", "s1d2n3s4;d9d9d9d9",
            "x", ";", "1", "s0", "s:", "S1", "ss", "s1d2n3s4s1", "s1d2n3s4x", "s1d2n3s4;;", "s1d2n3s4;d9d9d9d9;",
            "s1;", "s1d2n3s45", "s9x", "d9d9d9d9;d9d9d9d9;d9d9d9d9;d9d9d9d9", "d9d9d9d9;d9d9d9d9;d9d9d9d9;d9d9d9d0",
            "d9d9d9d9;d9d9d9d9;d9d9d9d9;d9d9d9d", "s1d2n3s4 ", "xd5d5d5d5"};
        int[] faults = {NONE, 1, 2, 3, NONE, 9, 10, NONE,
            0, 0, 0, 1, 1, 0, 1, 8, 8, 9, 18,
            2, 8, 2, NONE, 34,
            34, 8, 0};
        for (int i = 0; i < texts.length; i++) {
            RelayRace x = told(texts[i]);
            due("fault() of " + texts[i], x.fault(), faults[i]);
            int teams = faults[i] == NONE ? (texts[i].length() + 1) / 9 : 0;
            due("count(0) of " + texts[i], x.count(0), teams);
        }
    }

    private static void runner() {
        promise = 6;
        RelayRace x = told("s1d2n3s4;n9d8s7d6");
        int[][] sorts = {{0, 1, 2, 0}, {2, 1, 0, 1}};
        int[][] paces = {{1, 2, 3, 4}, {9, 8, 7, 6}};
        for (int t = 0; t < 2; t++) {
            for (int leg = 0; leg < 4; leg++) {
                due("sort of " + t + ", " + leg, x.runner(t, leg, 0), sorts[t][leg]);
                due("pace of " + t + ", " + leg, x.runner(t, leg, 1), paces[t][leg]);
            }
        }
        int[][] bad = {{-1, 0, 0}, {2, 0, 0}, {0, -1, 0}, {0, 4, 0}, {0, 0, -1}, {0, 0, 2}, {LEAST, MOST, MOST}};
        for (int[] b : bad) due("runner bad", x.runner(b[0], b[1], b[2]), BAD);
        x.type('x');
        due("runner of a faulty text", x.runner(0, 0, 0), BAD);
    }

    private static void along() {
        promise = 7;
        RelayRace x = told("d5d5d5d5");
        due("home(0)", x.home(0), 23);
        due("along(10)", x.along(10), 30);
        due("home(0)", x.home(0), 7);
        due("along(60)", x.along(60), 10);
        due("home(0)", x.home(0), 47);
        for (int v : new int[] {9, 61, 0, -1, LEAST, MOST}) due("along(" + v + ")", x.along(v), BAD);
        due("count(2)", x.count(2), 60);
        due("along(30)", x.along(30), 60);
        due("home(0)", x.home(0), 23);
    }

    private static void event() {
        promise = 8;
        RelayRace x = new RelayRace();
        int[][] bad = {{-1, 0, 0}, {3, 0, 0}, {0, -1, 0}, {0, 48, 0}, {0, 0, -1}, {0, 0, 4}, {1, 0, 4}, {MOST, LEAST, MOST}};
        for (int[] b : bad) due("event bad", x.event(b[0], b[1], b[2]), BAD);
        due("count(3)", x.count(3), 0);
        due("event(0, 0, 0)", x.event(0, 0, 0), 1);
        due("event(2, 47, 3)", x.event(2, 47, 3), 2);
        for (int n = 3; n <= 8; n++) due("event(1, 5, 1)", x.event(1, 5, 1), n);
        due("a ninth", x.event(1, 5, 1), FULL);
        due("a bad ninth", x.event(3, 5, 1), BAD);
        due("count(3)", x.count(3), 8);
    }

    private static void back() {
        promise = 9;
        RelayRace x = told("d5d5d5d5");
        due("back()", x.back(), NOT);
        x.event(1, 0, 0);
        x.event(1, 1, 0);
        metres(x, 0, 0, 0, 5);
        due("back()", x.back(), 1);
        metres(x, 0, 0, 5, 10);
        due("back()", x.back(), 0);
        metres(x, 0, 5, 10, 15);
        due("back()", x.back(), NOT);
    }

    private static void fill(RelayRace x, int s, int form, int... items) {
        x.sheet(s, form, items.length);
        for (int i = 0; i < items.length; i++) x.put(s, form, i, items[i]);
    }

    private static void read() {
        promise = 10;
        RelayRace x = told("d5d5d5d5");
        due("read(-1)", x.read(-1), BAD);
        due("read(4)", x.read(4), BAD);
        due("count(8)", x.count(8), 0);
        x.event(0, 0, 0);
        due("read(0)", x.read(0), NULL);
        due("count(8)", x.count(8), 1);
        due("count(3)", x.count(3), 1);
        due("back()", x.back(), 0);
        fill(x, 0, 0, 1, 0, 0, 1, 2, 0, 1, 3);
        due("read(0), two are whole", x.read(0), 2);
        metres(x, 0, 0, 5, 5, 10);
        undoEvents(x);
        fill(x, 1, 1, 1, 0, 0, 1, 48, 0, 1, 1, 0);
        due("read(1), ended by a moment that is none", x.read(1), 1);
        metres(x, 0, 0, 5, 10);
        undoEvents(x);
        fill(x, 2, 2, 3, 0, 0, 1, 1, 0);
        due("read(2), ended at once", x.read(2), 0);
        metres(x, 0, 5, 10, 15);
        fill(x, 3, 2, 1, 1, 4, 1, 1, 0);
        due("read(3), ended by a number", x.read(3), 0);
        fill(x, 3, 0, 1, 1, 0, 1, -1, 0);
        due("read(3), ended below 0", x.read(3), 1);
        undoEvents(x);
        x.sheet(3, 1, 60);
        due("read(3), 8 of 20", x.read(3), 8);
        due("event(0, 0, 0)", x.event(0, 0, 0), FULL);
        metres(x, 0, 4, 8, 12);
        undoEvents(x);
        x.sheet(3, 1, 2);
        due("read(3), none is whole", x.read(3), 0);
        x.event(0, 0, 0);
        x.sheet(3, 1, 0);
        due("read(3), empty", x.read(3), 0);
        due("count(3), the one told stays", x.count(3), 1);
        metres(x, 0, 4, 8, 12);
        readBehindTold();
    }

    private static void undoEvents(RelayRace x) {
        for (int k = 0; k < 8; k++) x.back();
    }

    private static void readBehindTold() {
        RelayRace x = told("d5d5d5d5");
        x.event(1, 0, 0);
        fill(x, 0, 0, 1, 2, 0, 0, 3, 0);
        due("read(0), behind one told", x.read(0), 2);
        due("count(3)", x.count(3), 3);
        metres(x, 0, 0, 5, 5, 9);
        due("back(), the last of the sheet", x.back(), 2);
        metres(x, 0, 0, 5, 5, 10);
        due("back(), the first of the sheet", x.back(), 1);
        metres(x, 0, 0, 5, 10, 15);
        due("read(0)", x.read(0), 2);
        due("read(0), once more", x.read(0), 2);
        due("count(3)", x.count(3), 5);
        fill(x, 1, 2, 1, 3, 0, 3, 0, 0);
        due("read(1), behind five, ended by a kind", x.read(1), 1);
        due("count(3)", x.count(3), 6);
        fill(x, 2, 1, 1, 4, 0, 1, 5, 0, 1, 1, 0);
        due("read(2), two of three", x.read(2), 2);
        due("count(3)", x.count(3), 8);
        metres(x, 0, 0, 5, 5, 5, 5, 5, 9);
        due("read(2), with 8 told", x.read(2), 0);
        due("count(3)", x.count(3), 8);
        due("read(3), lost, with 8 told", x.read(3), NULL);
        due("read(4), with 8 told", x.read(4), BAD);
    }

    private static void atStrides() {
        promise = 11;
        RelayRace x = told("s5s5s5s5;d5d5d5d5;n5n5n5n5");
        x.along(60);
        metres(x, 0, 6, 12, 18, 23, 28, 33, 37, 41, 45, 49, 53, 57, 61, 67);
        metres(x, 1, 5, 10, 15, 20, 25, 30, 35, 40, 45, 50, 55, 60, 65);
        metres(x, 2, 4, 9, 14, 19, 24, 29, 34, 39, 44, 49, 54, 59, 64, 68);
        due("leg", x.at(11, 0, 1), 0);
        due("leg", x.at(12, 0, 1), 1);
        due("leg", x.at(10, 1, 1), 0);
        due("leg", x.at(11, 1, 1), 1);
        x = told("n5n5n5n5;s1s1s1s1;n1n1n1n1");
        x.along(10);
        metres(x, 0, 4, 9, 14, 18, 23, 27, 32, 36, 41, 41, 41);
        int[] legs = {0, 0, 1, 1, 2, 2, 3, 3, 4, 4};
        for (int m = 0; m < legs.length; m++) due("leg behind " + m, x.at(m, 0, 1), legs[m]);
        due("leg behind 47", x.at(47, 0, 1), 4);
        due("metres behind 47", x.at(47, 0, 0), 41);
        metres(x, 1, 2, 4, 6, 7, 8, 9, 10, 12, 14, 16);
        metres(x, 2, 1, 2, 3, 4);
        int[][] bad = {{-1, 0, 0}, {48, 0, 0}, {0, -1, 0}, {0, 3, 0}, {0, 0, -1}, {0, 0, 3}, {MOST, LEAST, MOST}};
        for (int[] b : bad) due("at bad", x.at(b[0], b[1], b[2]), BAD);
    }

    private static void atEvents() {
        RelayRace x = told("d5d5d5d5;s5s5s5s5;d1d1d1d1");
        x.along(60);
        x.event(0, 3, 3);
        metres(x, 0, 5, 10, 15, 19, 23);
        metres(x, 1, 6, 12, 18, 22, 26, 30, 33, 36);
        metres(x, 2, 1, 2, 3, 4, 5);
        x.event(0, 1, 0);
        metres(x, 0, 5, 9, 13, 17);
        x = told("d5d5d5d5;s5s5s5s5;n5n5n5n5");
        x.along(60);
        x.event(1, 0, 1);
        x.event(2, 0, 2);
        x.event(2, 2, 0);
        metres(x, 0, 5, 10, 10, 10, 10, 15);
        metres(x, 1, 0, 6, 12, 17, 22, 27, 31);
        metres(x, 2, 0, 0, 0, 5, 10);
        x = told("d9d9d9d9");
        x.event(1, 3, 1);
        x.event(2, 3, 3);
        metres(x, 0, 9, 18, 27, 36, 45);
        x.event(1, 3, 0);
        metres(x, 0, 9, 18, 27, 27, 36, 45);
        due("leg", x.at(3, 0, 1), 0);
        due("leg", x.at(4, 0, 1), 1);
    }

    private static void atRanks() {
        // 5 6 5 1 metres, then 10 12 11 2.
        RelayRace x = told("d5d5d5d5;d6d6d6d6;n6d6d6d7;d1d1d1d1");
        ranks(x, 0, 1, 0, 2, 3);
        ranks(x, 1, 2, 0, 1, 3);
        x = told("d1d1d1d1;d5d5d5d5;d5d5d5d5;d6d6d6d6");
        ranks(x, 47, 3, 1, 2, 0);
        ranks(x, 10, 3, 1, 2, 0);
        // Teams 0 and 1 are home in one moment, team 1 farther: 40 and 41 metres.
        x = told("d8d8d8d8;d9d8d8d8;d5d5d5d5");
        x.along(10);
        ranks(x, 4, 1, 0, 2);
        ranks(x, 47, 1, 0, 2);
        // One that is home with 40 stays ahead of one that comes later with 42.
        x = told("n9n9n9n9;d8d8d8d8");
        x.along(10);
        due("home(0)", x.home(0), 4);
        due("home(1)", x.home(1), 4);
        x.event(1, 0, 0);
        due("home(0)", x.home(0), 5);
        due("metres", x.at(47, 0, 0), 42);
        due("metres", x.at(47, 1, 0), 40);
        ranks(x, 47, 1, 0);
    }

    private static void home() {
        promise = 12;
        RelayRace x = told("d5d5d5d5;d1d1d1d1;s9s9s9s9");
        due("home(0)", x.home(0), 23);
        due("home(1)", x.home(1), NONE);
        due("home(2)", x.home(2), 11);
        x.along(60);
        due("home(0)", x.home(0), 47);
        x.event(1, 47, 0);
        due("home(0)", x.home(0), NONE);
        for (int t : new int[] {-1, 3, 4, LEAST, MOST}) due("home(" + t + ")", x.home(t), BAD);
        due("home(0) of none", new RelayRace().home(0), BAD);
    }

    private static void lasted() {
        promise = 13;
        // 9 18 27 36 | 41 .. 61 | 65 70 .. 90 | 93 96 .. 120
        RelayRace x = told("d9d5n5d3;d1d1d1d1");
        int[] want = {4, 5, 6, 10};
        for (int leg = 0; leg < 4; leg++) due("lasted(0, " + leg + ")", x.lasted(0, leg), want[leg]);
        due("lasted(1, 0)", x.lasted(1, 0), 30);
        for (int leg = 1; leg < 4; leg++) due("lasted(1, " + leg + ")", x.lasted(1, leg), NONE);
        x.event(2, 1, 0);
        due("lasted(0, 0), dropped", x.lasted(0, 0), 7);
        due("lasted(0, 1)", x.lasted(0, 1), 5);
        int[][] bad = {{-1, 0}, {2, 0}, {0, -1}, {0, 4}, {MOST, LEAST}};
        for (int[] b : bad) due("lasted bad", x.lasted(b[0], b[1]), BAD);
    }

    private static void won() {
        promise = 14;
        due("won(0) of none", new RelayRace().won(0), NONE);
        due("won(1) of none", new RelayRace().won(1), NONE);
        RelayRace x = told("d1d1d1d1");
        due("won(0), none home", x.won(0), NONE);
        due("won(1), none home", x.won(1), NONE);
        x = told("d5d5d5d5;d6d6d6d6");
        due("won(0)", x.won(0), 1);
        due("won(1)", x.won(1), 19);
        x = told("d8d8d8d8;d9d8d8d8;d9d8d8d8");
        x.along(10);
        due("won(0), the farther", x.won(0), 1);
        due("won(1)", x.won(1), 4);
        for (int w : new int[] {-1, 2, LEAST, MOST}) due("won(" + w + ")", x.won(w), BAD);
        due("won(2) of none", new RelayRace().won(2), BAD);
    }

    private static void changes() {
        promise = 15;
        due("changes() of none", new RelayRace().changes(), 0);
        due("changes() of one", told("d5d5d5d5").changes(), 0);
        RelayRace x = told("d5d5d5d5;d6d6d6d6");
        due("changes()", x.changes(), 0);
        x.event(2, 4, 1);
        // 25 and 24 behind moment 4: team 0 leads; 90 and 90 behind 17: it still does; 95 and 96 behind 18.
        due("changes(), dropped", x.changes(), 2);
        due("count(5)", x.count(5), 2);
        ranks(x, 3, 1, 0);
        ranks(x, 4, 0, 1);
        ranks(x, 17, 0, 1);
        ranks(x, 18, 1, 0);
        // Home in one moment and as far, the one with the less number leads all along.
        due("changes() of like ones", told("d5d5d5d5;d5d5d5d5").changes(), 0);
    }

    private static void leader() {
        promise = 16;
        due("leader(0) of none", new RelayRace().leader(0), NONE);
        due("leader(1) of none", new RelayRace().leader(1), NONE);
        due("leader(2) of none", new RelayRace().leader(2), BAD);
        RelayRace x = told("d1d1d1d1;d5d5d5d5;d5d5d5d5");
        due("leader(0)", x.leader(0), 1);
        due("leader(1)", x.leader(1), 48);
        x = told("d5d5d5d5;d5d5d5d5");
        x.along(60);
        x.event(1, 24, 0);
        // Like ones until team 0 trips: it has 24 moments, team 1 the other 24.
        due("leader(0), like ones", x.leader(0), 0);
        due("leader(1), like ones", x.leader(1), 24);
        x.back();
        x.event(1, 23, 0);
        due("leader(0)", x.leader(0), 1);
        due("leader(1)", x.leader(1), 25);
        for (int w : new int[] {-1, 2, LEAST, MOST}) due("leader(" + w + ")", x.leader(w), BAD);
    }

    private static void stood() {
        promise = 17;
        RelayRace x = told("d5d5d5d5;d1d1d1d1");
        due("stood(0)", x.stood(0), 0);
        x.event(2, 3, 0);
        due("stood(0)", x.stood(0), 3);
        x.event(1, 4, 0);
        due("stood(0), twice in one", x.stood(0), 3);
        x.event(2, 5, 0);
        due("stood(0)", x.stood(0), 5);
        x.event(1, 40, 0);
        due("stood(0), behind home", x.stood(0), 5);
        due("stood(1)", x.stood(1), 0);
        x.event(2, 46, 1);
        due("stood(1)", x.stood(1), 2);
        x.event(0, 0, 1);
        due("stood(1), rain", x.stood(1), 2);
        for (int t : new int[] {-1, 2, LEAST, MOST}) due("stood(" + t + ")", x.stood(t), BAD);
        // Home in 23: a trip in 23 makes it 24, so one in 24 counts too, and one in 26 does not.
        x = told("d5d5d5d5");
        x.event(1, 24, 0);
        due("stood(0), just behind home", x.stood(0), 0);
        x.event(1, 23, 0);
        due("stood(0), home put off", x.stood(0), 2);
        due("home(0)", x.home(0), 25);
        x.event(1, 26, 0);
        due("stood(0)", x.stood(0), 2);
    }

    private static void orders(RelayRace x, int team, int... want) {
        for (int i = 0; i < 5; i++) due("order(" + team + ", " + i + ")", x.order(team, i), want[i]);
    }

    private static void order() {
        promise = 18;
        orders(told("d5d5d5d5"), 0, 0, 1, 2, 3, 23);
        // The fast one runs past its end by 8 metres, which the next slow one need not run.
        RelayRace x = told("d9d9d9d9;d1d1d1d9");
        x.along(10);
        due("home(1)", x.home(1), 31);
        orders(x, 1, 0, 1, 3, 2, 23);
        due("home(1) as before", x.home(1), 31);
        x.along(60);
        orders(x, 1, NONE, NONE, NONE, NONE, NONE);
        int[][] bad = {{-1, 0}, {2, 0}, {0, -1}, {0, 5}, {MOST, LEAST}};
        for (int[] b : bad) due("order bad", x.order(b[0], b[1]), BAD);
    }

    private static void train() {
        promise = 19;
        RelayRace x = told("d5d5d5d5;d9d1d9d9;d9d9d9d9;d1d1d1d1");
        due("train(0, 0), like ones", x.train(0, 0), 0);
        due("train(0, 1)", x.train(0, 1), 22);
        due("train(1, 0)", x.train(1, 0), 1);
        due("train(1, 1)", x.train(1, 1), 22);
        due("home(1) as before", x.home(1), 34);
        due("train(2, 0), 9 at most", x.train(2, 0), 0);
        due("train(2, 1), 9 at most", x.train(2, 1), 13);
        due("train(3, 0), never home", x.train(3, 0), NONE);
        due("train(3, 1), never home", x.train(3, 1), NONE);
        int[][] bad = {{-1, 0}, {4, 0}, {0, -1}, {0, 2}, {MOST, LEAST}};
        for (int[] b : bad) due("train bad", x.train(b[0], b[1]), BAD);
    }

    private static void fit() {
        promise = 20;
        RelayRace x = told("d5d5d5d5;s5s5s5s5;d4d4d4d4");
        due("fit(1)", x.fit(1), 10);
        due("fit(2)", x.fit(2), NONE);
        // Behind n moments (6 or more) a sprinter has gone 4 n + 9, a dogged one 5 n: as far at 45 metres.
        due("fit(0)", x.fit(0), 45);
        for (int v = 10; v <= 45; v++) {
            x.along(v);
            due("won(0) by " + v, x.won(0), v < 45 ? 1 : 0);
        }
        x.along(60);
        due("fit(1), whatever LONG is", x.fit(1), 10);
        due("count(2) as told", x.count(2), 60);
        x = told("d5d5d5d5;d5d5d5d5");
        due("fit(0), like ones", x.fit(0), 10);
        due("fit(1), like ones", x.fit(1), NONE);
        x.event(1, 8, 0);
        // By 10 team 0 is home in 7, ahead of its trip; by 11 in 8 at best, so it trips.
        due("fit(0)", x.fit(0), 10);
        due("fit(1)", x.fit(1), 11);
        // By 59 home in 42 and 41; by 60 both in 42, with 243 metres and 242.
        due("fit(0), the most that LONG may be", told("d5d5d5d9;s6s6s6d5").fit(0), 60);
        x = told("d1d1d1d1");
        due("fit(0) of one", x.fit(0), 10);
        x.event(2, 10, 0);
        x.event(2, 20, 0);
        x.event(2, 30, 0);
        due("fit(0), never home", x.fit(0), NONE);
        for (int t : new int[] {-1, 1, LEAST, MOST}) due("fit(" + t + ")", x.fit(t), BAD);
    }

    private static void spares(RelayRace x, int howMany, int first, int second) {
        due("spare(NONE)", x.spare(NONE), howMany);
        due("spare(0)", x.spare(0), first);
        due("spare(1)", x.spare(1), second);
    }

    private static void spare() {
        promise = 21;
        spares(new RelayRace(), NONE, NONE, NONE);
        RelayRace x = told("d5d5d5d5;d5d5d5d5");
        spares(x, 0, NONE, NONE);
        x.event(0, 9, 0);
        x.event(1, 3, 1);
        spares(x, 0, NONE, NONE);
        x.back();
        x.event(1, 3, 0);
        spares(x, 1, 1, NONE);
        x.event(1, 4, 0);
        spares(x, 2, 1, 2);
        x.event(1, 5, 0);
        spares(x, NONE, NONE, NONE);
        x.event(1, 6, 1);
        // Of three trips one must stay, as team 1 trips too: the least two go.
        spares(x, 2, 1, 2);
        x.event(1, 7, 1);
        spares(x, 1, 1, NONE);
        x.event(1, 8, 1);
        spares(x, 0, NONE, NONE);
        for (int i : new int[] {-2, 2, LEAST, MOST}) due("spare(" + i + ")", x.spare(i), BAD);
        x = told("d5d5d5d5;d6d6d6d6");
        x.event(0, 0, 0);
        spares(x, NONE, NONE, NONE);
        spares(told("d1d1d1d1"), NONE, NONE, NONE);
    }

    private static void seen() {
        promise = 22;
        RelayRace x = new RelayRace();
        int[][] bad = {{-1, 0, 0}, {48, 0, 0}, {0, -1, 0}, {0, 4, 0}, {0, 0, -1}, {0, 0, 4}, {MOST, LEAST, MOST}};
        for (int[] b : bad) due("seen bad", x.seen(b[0], b[1], b[2]), BAD);
        due("count(7)", x.count(7), 0);
        due("seen(0, 0, 0)", x.seen(0, 0, 0), 1);
        due("seen(47, 3, 3)", x.seen(47, 3, 3), 2);
        for (int n = 3; n <= 8; n++) due("seen(1, 1, 1)", x.seen(1, 1, 1), n);
        due("a ninth", x.seen(1, 1, 1), FULL);
        due("a bad ninth", x.seen(1, 1, 4), BAD);
        due("count(7)", x.count(7), 8);
    }

    private static void forget() {
        promise = 23;
        RelayRace x = told("d5d5d5d5");
        due("forget()", x.forget(), 0);
        x.seen(0, 0, 1);
        x.seen(1, 0, 1);
        due("was(0, 0, 0)", x.was(0, 0, 0), 0);
        due("forget()", x.forget(), 2);
        due("was(0, 0, 0)", x.was(0, 0, 0), 1022);
        due("forget()", x.forget(), 0);
        due("count(7)", x.count(7), 0);
    }

    private static void never() {
        promise = 24;
        RelayRace x = told("d5d5d5d5;d5d5d5d5");
        due("never() of none", x.never(), 0);
        x.event(1, 3, 0);
        x.event(1, 5, 1);
        due("never(), nothing seen", x.never(), 3);
        x.seen(10, 1, 0);
        due("never()", x.never(), 2);
        x.seen(2, 0, 0);
        due("never()", x.never(), 2);
        x.event(0, 8, 0);
        due("never(), rain", x.never(), 2);
        x.seen(10, 0, 0);
        due("never(), both ahead", x.never(), 0);
        x.forget();
        x.seen(4, 0, 0);
        due("never()", x.never(), 1);
        x.forget();
        x.seen(4, 2, 2);
        due("never(), no such team", x.never(), 0);
        x = told("x");
        x.event(0, 0, 0);
        due("never() of no teams", x.never(), 1);
        x.seen(0, 0, 0);
        due("never() of no teams", x.never(), 0);
    }

    private static void was() {
        promise = 25;
        RelayRace x = told("d5d5d5d5;d5d5d5d5");
        due("was(0, 3, 0)", x.was(0, 3, 0), 1022);
        due("was(0, 3, 1)", x.was(0, 3, 1), 7);
        x.seen(0, 0, 0);
        due("was(0, 0, 0)", x.was(0, 0, 0), 992);
        due("was(1, 0, 0)", x.was(1, 0, 0), 62);
        due("was(0, 0, 1)", x.was(0, 0, 1), 3);
        due("was(1, 0, 1)", x.was(1, 0, 1), 6);
        due("was(0, 1, 0)", x.was(0, 1, 0), 1022);
        due("runner(0, 0, 1) as told", x.runner(0, 0, 1), 5);
        due("runner(0, 0, 0) as told", x.runner(0, 0, 0), 1);
        x.seen(1, 2, 2);
        due("was(0, 0, 0), no such team", x.was(0, 0, 0), 0);
        due("was(0, 0, 1), no such team", x.was(0, 0, 1), 0);
        int[][] bad = {{-1, 0, 0}, {2, 0, 0}, {0, -1, 0}, {0, 4, 0}, {0, 0, -1}, {0, 0, 2}, {MOST, LEAST, MOST}};
        for (int[] b : bad) due("was bad", x.was(b[0], b[1], b[2]), BAD);
    }

    private static void ask() {
        promise = 26;
        RelayRace x = told("d9d5d5d5;d9d5d5d5");
        due("ask(0, 0)", x.ask(0, 0), 0);
        // Both hand over behind moment 3; from 4 on paces 1 to 4 fall back and 5 to 9 do not.
        due("ask(0, 1)", x.ask(0, 1), 4);
        x.seen(4, 0, 1);
        due("was(0, 1, 0)", x.was(0, 1, 0), 30);
        due("ask(0, 1), all four alike for ever", x.ask(0, 1), 0);
        x.seen(4, 0, 0);
        due("ask(0, 1), nothing left", x.ask(0, 1), 0);
        due("ask(0, 3) of one", told("d5d5d5d5").ask(0, 3), 0);
        int[][] bad = {{-1, 0}, {2, 0}, {0, -1}, {0, 4}, {MOST, LEAST}};
        for (int[] b : bad) due("ask bad", x.ask(b[0], b[1]), BAD);
    }

    private static void chances(RelayRace x, int c, int team, long above, long below) {
        due("chance(" + c + ", " + team + ", 0)", x.chance(c, team, 0), above);
        due("chance(" + c + ", " + team + ", 1)", x.chance(c, team, 1), below);
    }

    private static void chance() {
        promise = 27;
        RelayRace x = told("d5d5d5d5;d5d5d5d5");
        chances(x, 5, 0, 1, 1);
        chances(x, 5, 1, 0, 1);
        x.event(1, 0, 0);
        chances(x, 4, 0, 3, 4);
        chances(x, 4, 1, 1, 4);
        chances(x, 5, 0, 11, 16);
        chances(x, 0, 0, 1, 1);
        chances(x, 0, 1, 0, 1);
        chances(x, 16, 0, 0, 1);
        chances(x, 16, 1, 1, 1);
        x.event(1, 1, 0);
        chances(x, 5, 0, 121, 256);
        chances(x, 5, 1, 135, 256);
        x.event(1, 0, 1);
        // Team 0 never trips, 11 11 16, or once and team 1 too, 2 11 5 5: 2486 of 4096.
        chances(x, 5, 0, 1243, 2048);
        chances(x, 5, 1, 805, 2048);
        x.back();
        for (int m = 2; m < 8; m++) x.event(1, m, 0);
        chances(x, 1, 0, 2562890625L, 4294967296L);
        chances(x, 1, 1, 4294967296L - 2562890625L, 4294967296L);
        chances(x, 8, 0, 1, 256);
        x.along(60);
        x.back();
        chances(x, 8, 0, 1, 128);
        chances(told("d1d1d1d1"), 8, 0, 0, 1);
        int[][] bad = {{-1, 0, 0}, {17, 0, 0}, {0, -1, 0}, {0, 2, 0}, {0, 0, -1}, {0, 0, 2}, {MOST, LEAST, MOST}};
        for (int[] b : bad) due("chance bad", x.chance(b[0], b[1], b[2]), LONG_BAD);
    }

    private static void years() {
        promise = 28;
        RelayRace x = told("d5d5d5d5;d5d5d5d5;d5d5d5d5");
        due("years(1, 0, 0)", x.years(1, 0, 0), 0);
        due("years(1, 0, 1)", x.years(1, 0, 1), 23);
        x.event(2, 0, 0);
        due("years(1, 0, 0), in place of those told", x.years(1, 0, 0), 0);
        due("years(1, 0, 1)", x.years(1, 0, 1), 23);
        // Seed 14 draws a drop of team 0 in 0; 28 rain from 4; 5 a trip of team 0 in 41, then its drop in 1.
        int[][] known = {{14, 1, 1, 23}, {28, 1, 0, 28}, {5, 1, 0, 23}, {5, 2, 1, 23}};
        for (int[] k : known) {
            due("years(" + k[0] + ", " + k[1] + ", 0)", x.years(k[0], k[1], 0), k[2]);
            due("years(" + k[0] + ", " + k[1] + ", 1)", x.years(k[0], k[1], 1), k[3]);
        }
        for (int seed : new int[] {0, 1, 7, -1, LEAST, MOST}) {
            for (int n = 0; n <= 8; n++) {
                RelayRace y = drawn(seed, n);
                due("years(" + seed + ", " + n + ", 0)", x.years(seed, n, 0), y.won(0));
                due("years(" + seed + ", " + n + ", 1)", x.years(seed, n, 1), y.won(1));
            }
        }
        due("count(3) as before", x.count(3), 1);
        due("years of none", new RelayRace().years(1, 8, 0), NONE);
        due("years of none", new RelayRace().years(1, 8, 1), NONE);
        due("years, none home", told("d1d1d1d1").years(1, 0, 0), NONE);
        int[][] bad = {{1, -1, 0}, {1, 9, 0}, {1, 0, -1}, {1, 0, 2}, {1, MOST, LEAST}};
        for (int[] b : bad) due("years bad", x.years(b[0], b[1], b[2]), BAD);
    }

    /** The same teams with the events that the seed draws, told one by one. */
    private static RelayRace drawn(int seed, int n) {
        RelayRace y = told("d5d5d5d5;d5d5d5d5;d5d5d5d5");
        long s = seed & 0xFFFFFFFFL;
        int[] of = {3, 48, 4};
        for (int k = 0; k < n; k++) {
            int[] e = new int[3];
            for (int i = 0; i < 3; i++) {
                s = (1103515245L * s + 12345L) & 0xFFFFFFFFL;
                e[i] = (int) ((s >> 16) % of[i]);
            }
            y.event(e[0], e[1], e[2]);
        }
        return y;
    }

    private static void sheet() {
        promise = 29;
        RelayRace x = new RelayRace();
        int[][] bad = {{-1, 0, 0}, {4, 0, 0}, {0, -1, 0}, {0, 3, 0}, {0, 0, 61}, {0, 0, MOST}, {-1, 0, -1}, {0, 3, -1}};
        for (int[] b : bad) due("sheet bad", x.sheet(b[0], b[1], b[2]), BAD);
        due("count(8)", x.count(8), 0);
        due("sheet(0, 0, -1)", x.sheet(0, 0, -1), SIZE);
        due("count(8)", x.count(8), 5);
        due("sheet(0, 0, least)", x.sheet(0, 0, LEAST), SIZE);
        due("lose(0), still lost", x.lose(0), NULL);
        due("sheet(0, 0, 0)", x.sheet(0, 0, 0), 0);
        due("get(0, 0, 0)", x.get(0, 0, 0), LEAST);
        due("count(8)", x.count(8), 2);
        due("sheet(3, 2, 60)", x.sheet(3, 2, 60), 60);
        for (int i = 0; i < 60; i++) due("get(3, 2, " + i + ")", x.get(3, 2, i), 0);
        x.put(3, 2, 7, 99);
        due("sheet(3, 2, -5)", x.sheet(3, 2, -5), SIZE);
        due("get(3, 2, 7), as it was", x.get(3, 2, 7), 99);
        due("sheet(3, 1, 8)", x.sheet(3, 1, 8), 8);
        due("get(3, 1, 7), new", x.get(3, 1, 7), 0);
        x.sheet(3, 1, 60);
        due("get(3, 1, 59)", x.get(3, 1, 59), 0);
    }

    private static void lose() {
        promise = 30;
        RelayRace x = new RelayRace();
        for (int s : new int[] {-1, 4, LEAST, MOST}) due("lose(" + s + ")", x.lose(s), BAD);
        due("count(8)", x.count(8), 0);
        due("lose(1)", x.lose(1), NULL);
        due("count(8)", x.count(8), 1);
        x.sheet(1, 1, 17);
        due("lose(1)", x.lose(1), 17);
        due("lose(1)", x.lose(1), NULL);
        due("put(1, 1, 0, 0)", x.put(1, 1, 0, 0), NULL);
        x.sheet(1, 2, 0);
        due("lose(1)", x.lose(1), 0);
    }

    private static void put() {
        promise = 31;
        RelayRace x = new RelayRace();
        for (int s : new int[] {-1, 4, LEAST, MOST}) due("put(" + s + ", ..)", x.put(s, 0, 0, 0), BAD);
        for (int f : new int[] {-1, 3, LEAST, MOST}) due("put(0, " + f + ", ..)", x.put(0, f, 0, 0), BAD);
        due("count(8)", x.count(8), 0);
        due("put, lost", x.put(0, 0, -1, 0), NULL);
        due("count(8)", x.count(8), 1);
        x.sheet(0, 0, 3);
        due("put, another form, no such item", x.put(0, 1, 3, 0), CAST);
        due("count(8)", x.count(8), 3);
        due("put, no such item", x.put(0, 0, 3, 0), INDEX);
        due("count(8)", x.count(8), 2);
        due("put, no such item", x.put(0, 0, -1, 0), INDEX);
        due("put(0, 0, 2, 384)", x.put(0, 0, 2, 384), 1);
        due("get(0, 0, 2)", x.get(0, 0, 2), -128);
        x.put(0, 0, 0, 127);
        due("get(0, 0, 0)", x.get(0, 0, 0), 127);
        due("get(0, 0, 1)", x.get(0, 0, 1), 0);
        x.sheet(1, 1, 1);
        due("put(1, 1, 0, 98304)", x.put(1, 1, 0, 98304), 1);
        due("get(1, 1, 0)", x.get(1, 1, 0), -32768);
        x.sheet(2, 2, 1);
        due("put(2, 2, 0, most)", x.put(2, 2, 0, MOST), 1);
        due("get(2, 2, 0)", x.get(2, 2, 0), MOST);
        due("put(2, 0, 0, 1)", x.put(2, 0, 0, 1), CAST);
        due("get(2, 2, 0)", x.get(2, 2, 0), MOST);
    }

    private static void get() {
        promise = 32;
        RelayRace x = new RelayRace();
        for (int s : new int[] {-1, 4, LEAST, MOST}) due("get(" + s + ", ..)", x.get(s, 0, 0), LEAST);
        for (int f : new int[] {-1, 3, LEAST, MOST}) due("get(0, " + f + ", ..)", x.get(0, f, 0), LEAST);
        due("count(8), no finding", x.count(8), 0);
        due("get, lost", x.get(0, 0, 9), LEAST);
        due("count(8)", x.count(8), 1);
        x.sheet(0, 1, 2);
        due("get, another form, no such item", x.get(0, 0, 2), LEAST);
        due("count(8)", x.count(8), 3);
        due("get, no such item", x.get(0, 1, 2), LEAST);
        due("count(8)", x.count(8), 2);
        due("get, no such item", x.get(0, 1, -1), LEAST);
        x.put(0, 1, 1, -7);
        due("get(0, 1, 1)", x.get(0, 1, 1), -7);
        due("get(0, 1, 0)", x.get(0, 1, 0), 0);
        due("count(8), still", x.count(8), 2);
    }

    private static void items(RelayRace x, int s, int form, int... want) {
        for (int i = 0; i < want.length; i++) due("item " + i + " of " + s, x.get(s, form, i), want[i]);
    }

    private static void copy() {
        promise = 33;
        RelayRace x = new RelayRace();
        for (int s : new int[] {-1, 4, LEAST, MOST}) {
            due("copy from " + s, x.copy(s, 0, 0, 0, 0), BAD);
            due("copy to " + s, x.copy(0, 0, s, 0, 0), BAD);
        }
        due("count(8)", x.count(8), 0);
        fill(x, 0, 1, 10, 20, 30, 40, 50);
        due("copy, t is lost", x.copy(0, 0, 1, 0, -1), NULL);
        due("copy, s is lost", x.copy(1, 0, 0, 0, -1), NULL);
        due("count(8)", x.count(8), 1);
        fill(x, 1, 2, 1, 2, 3);
        due("copy, unlike forms", x.copy(0, 0, 1, 0, -1), STORE);
        due("count(8)", x.count(8), 4);
        fill(x, 2, 1, 1, 2, 3);
        int[][] bad = {{-1, 0, 1}, {0, -1, 1}, {0, 0, -1}, {5, 0, 1}, {4, 0, 2}, {0, 3, 1}, {0, 2, 2}, {0, 0, 4},
            {6, 0, 0}, {0, 4, 0}, {1, 0, MOST}, {MOST, 0, 1}, {MOST, MOST, MOST}, {LEAST, 0, 1}, {0, 0, LEAST}};
        for (int[] b : bad) due("copy, no such items", x.copy(0, b[0], 2, b[1], b[2]), INDEX);
        due("count(8)", x.count(8), 2);
        items(x, 2, 1, 1, 2, 3);
        due("copy of none, at the ends", x.copy(0, 5, 2, 3, 0), 1);
        due("copy", x.copy(0, 3, 2, 1, 2), 1);
        items(x, 2, 1, 1, 40, 50);
        items(x, 0, 1, 10, 20, 30, 40, 50);
        due("copy onto itself, up", x.copy(0, 0, 0, 1, 4), 1);
        items(x, 0, 1, 10, 10, 20, 30, 40);
        due("copy onto itself, down", x.copy(0, 2, 0, 0, 3), 1);
        items(x, 0, 1, 20, 30, 40, 30, 40);
    }

    private static void write() {
        promise = 34;
        RelayRace x = told("d5d5d5d5;d9d9d9d9");
        int[][] bad = {{-1, 0}, {2, 0}, {0, -1}, {0, 4}, {MOST, LEAST}};
        for (int[] b : bad) due("write bad", x.write(b[0], b[1]), BAD);
        due("count(8)", x.count(8), 0);
        due("write, lost", x.write(0, 0), NULL);
        due("count(8)", x.count(8), 1);
        x.sheet(0, 1, 5);
        due("write(0, 0)", x.write(0, 0), 5);
        items(x, 0, 1, 5, 10, 15, 20, 25);
        fill(x, 1, 2, new int[50]);
        x.put(1, 2, 48, 77);
        due("write(1, 1)", x.write(1, 1), 48);
        items(x, 1, 2, 9, 18, 27, 36, 45, 54, 63, 72, 81, 90, 99, 108, 117, 126, 126, 126);
        due("item 47", x.get(1, 2, 47), 126);
        due("item 48, as it was", x.get(1, 2, 48), 77);
        x.sheet(2, 0, 60);
        x.along(60);
        due("write(1, 2)", x.write(1, 2), 48);
        due("item 13", x.get(2, 0, 13), 126);
        due("item 14, 135 as a byte", x.get(2, 0, 14), -121);
        x.sheet(3, 0, 0);
        due("write(0, 3), no items", x.write(0, 3), 0);
        due("write of a faulty text", told("d5").write(0, 0), BAD);
    }

    private static void count() {
        promise = 35;
        RelayRace x = told("d5d5d5d5;d1d1d1d1;d6d6d6d6");
        x.along(31);
        x.event(2, 0, 3);
        x.event(2, 4, 2);
        x.seen(1, 1, 1);
        x.lose(0);
        // 125 metres, 48 and 126; the lead goes from team 2 to team 0 behind moment 4 and back behind 18.
        int[] want = {3, 26, 31, 2, 2, 2, 125 + 48 + 126, 1, 1};
        for (int w = 0; w <= 8; w++) due("count(" + w + ")", x.count(w), want[w]);
        for (int w : new int[] {-1, 9, LEAST, MOST}) due("count(" + w + ")", x.count(w), BAD);
        x.type('x');
        int[] faulty = {0, 27, 31, 2, 0, 0, 0, 1, 1};
        for (int w = 0; w <= 8; w++) due("count(" + w + ") of a faulty text", x.count(w), faulty[w]);
    }

    private static void digest() {
        promise = 36;
        long h = 17;
        int[] empty = {0, 0, 30, 0, 0, 0, 0, 0, -1, -1, -1, -1, -1, -1, -1, 0, -1, -1};
        for (int v : empty) h = 31 * h + v;
        due("digest() of a new object", new RelayRace().digest(), h);
        RelayRace x = told("s6d6n6d5;d6s6d6n6");
        x.event(1, 4, 0);
        x.event(2, 9, 1);
        due("digest()", x.digest(), -5916795719001345127L);
        due("digest() again", x.digest(), -5916795719001345127L);
        x.seen(8, 0, 0);
        due("digest() by its words", x.digest(), byWords(x));
        refusals(x);
    }

    private static long byWords(RelayRace x) {
        long h = 17;
        for (int w = 0; w < 8; w++) h = 31 * h + x.count(w);
        h = 31 * h + x.fault();
        for (int t = 0; t < x.count(0); t++) {
            for (int m : new int[] {0, 9, 18, 30, 47}) for (int w = 0; w < 3; w++) h = 31 * h + x.at(m, t, w);
            for (int leg = 0; leg < 4; leg++) {
                h = 31 * h + x.runner(t, leg, 0);
                h = 31 * h + x.runner(t, leg, 1);
                h = 31 * h + x.lasted(t, leg);
                h = 31 * h + x.was(t, leg, 0);
                h = 31 * h + x.was(t, leg, 1);
                h = 31 * h + x.ask(t, leg);
            }
            h = 31 * h + x.home(t);
            h = 31 * h + x.stood(t);
            for (int i = 0; i < 5; i++) h = 31 * h + x.order(t, i);
            h = 31 * h + x.train(t, 0);
            h = 31 * h + x.train(t, 1);
            h = 31 * h + x.fit(t);
            h = 31 * h + x.chance(5, t, 0);
            h = 31 * h + x.chance(5, t, 1);
        }
        int[] last = {x.won(0), x.won(1), x.leader(0), x.leader(1), x.spare(NONE), x.spare(0), x.never(),
            x.years(7, 6, 0), x.years(7, 6, 1)};
        for (int v : last) h = 31 * h + v;
        return h;
    }

    /** Nothing that is refused may change what the digest holds. */
    private static void refusals(RelayRace x) {
        long before = x.digest();
        x.type(256);
        x.along(9);
        x.event(3, 0, 0);
        x.read(0);
        x.read(4);
        x.seen(48, 0, 0);
        x.sheet(0, 0, -1);
        x.sheet(0, 0, 61);
        x.put(0, 0, 0, 0);
        x.copy(0, 0, 1, 0, 1);
        x.write(0, 0);
        x.years(5, 9, 0);
        x.order(9, 0);
        due("digest() behind refusals", x.digest(), before);
    }
}
