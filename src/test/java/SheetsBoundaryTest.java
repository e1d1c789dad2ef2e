import java.math.BigInteger;
import java.util.List;
import java.util.function.Supplier;

/** Boundary cases of promises 29 to 36: SHEETS, count, digest. */
public final class SheetsBoundaryTest extends Boundary {
    public static void main(String[] args) throws IllegalAccessException {
        runAll(SheetsBoundaryTest.class);
    }

    /** SHEET 0 had a FORM and items ahead of being LOST; nothing of them may show. */
    private static RelayRace lostOfForm(int form) {
        RelayRace x = some();
        fill(x, 0, form, 1, 2, 3);
        x.lose(0);
        return x;
    }

    // ---- promise 29

    @Says("A SHEET is a new row of a FORM with n items: n.")
    static void p29_of0And60ItemsInEachFormOnEachSheet() {
        for (int s = 0; s < 4; s++) {
            for (int form = 0; form < 3; form++) {
                RelayRace x = new RelayRace();
                due("sheet(" + s + ", " + form + ", 0)", x.sheet(s, form, 0), 0);
                due("put(" + s + ", " + form + ", 0, 1)", x.put(s, form, 0, 1), INDEX);
                due("sheet(" + s + ", " + form + ", 1)", x.sheet(s, form, 1), 1);
                due("put(" + s + ", " + form + ", 0, 1)", x.put(s, form, 0, 1), 1);
                due("put(" + s + ", " + form + ", 1, 1)", x.put(s, form, 1, 1), INDEX);
                due("sheet(" + s + ", " + form + ", 60)", x.sheet(s, form, 60), 60);
                due("put(" + s + ", " + form + ", 59, 1)", x.put(s, form, 59, 1), 1);
                due("put(" + s + ", " + form + ", 60, 1)", x.put(s, form, 60, 1), INDEX);
            }
        }
    }

    @Says("A SHEET is a new row of a FORM with n items: n.")
    static void p29_aNewRowHasNothingOfTheOldOne() {
        RelayRace x = new RelayRace();
        fill(x, 0, 2, 7, 8, 9);
        x.sheet(0, 2, 3);
        items(x, 0, 2, 0, 0, 0);
        fill(x, 0, 2, 7, 8, 9);
        x.sheet(0, 2, 1);
        x.sheet(0, 2, 3);
        items(x, 0, 2, 0, 0, 0);
        fill(x, 0, 2, 7, 8, 9);
        x.lose(0);
        x.sheet(0, 1, 3);
        items(x, 0, 1, 0, 0, 0);
        due("put as of the old FORM", x.put(0, 2, 0, 1), CAST);
    }

    @Says("BAD: SHEET, FORM, above 60; SIZE.")
    static void p29_BAD_eachNumberOutside() {
        Act act = (x, a) -> x.sheet(a[0], a[1], a[2]);
        for (Supplier<RelayRace> made : twoStates()) {
            eachOutside("sheet", made, ints(0, 0), ints(0, 3, 0, 2), (x, a) -> x.sheet(a[0], a[1], 5), BAD);
            refused("sheet(0, 0, 61)", made, act, ints(0, 0, 61), BAD, AS_BEFORE);
            refused("sheet(3, 2, 61)", made, act, ints(3, 2, 61), BAD, AS_BEFORE);
            refused("sheet(0, 0, most)", made, act, ints(0, 0, MOST), BAD, AS_BEFORE);
        }
        eachEdgeTaken("sheet", Boundary::some, ints(0, 0, 0), ints(0, 3, 0, 2, 0, 60), act);
    }

    private static List<Supplier<RelayRace>> twoStates() {
        return List.of(Boundary::some, Boundary::full);
    }

    @Says("BAD: SHEET, FORM, above 60; SIZE.")
    static void p29_SIZE_below0() {
        for (int n : new int[] {-1, -60, LEAST}) {
            refused("sheet(0, 0, " + n + ")", Boundary::fresh, (x, a) -> x.sheet(0, 0, n), SIZE, 5);
            refused("sheet(3, 2, " + n + ")", Boundary::full, (x, a) -> x.sheet(3, 2, n), SIZE, 5);
        }
    }

    @Says("BAD: SHEET, FORM, above 60; SIZE.")
    static void p29_BAD_aheadOf_SIZE() {
        Act act = (x, a) -> x.sheet(a[0], a[1], -1);
        eachOutside("sheet of -1", Boundary::fresh, ints(0, 0), ints(0, 3, 0, 2), act, BAD);
        eachOutside("sheet of -1", Boundary::some, ints(0, 0), ints(0, 3, 0, 2), act, BAD);
    }

    // ---- promise 30

    @Says("It is LOST: how many items it had.")
    static void p30_0And60ItemsOfEachSheet() {
        for (int s = 0; s < 4; s++) {
            RelayRace x = new RelayRace();
            x.sheet(s, 1, 0);
            due("lose(" + s + ") of no items", x.lose(s), 0);
            x.sheet(s, 2, 60);
            due("lose(" + s + ") of 60", x.lose(s), 60);
            due("lose(" + s + ") of one LOST", x.lose(s), NULL);
        }
    }

    @Says("It is LOST: how many items it had.")
    static void p30_thatSheetAndNoOther() {
        RelayRace x = full();
        due("lose(1)", x.lose(1), 60);
        due("lose(0)", x.lose(0), 60);
        due("lose(3)", x.lose(3), 60);
        due("lose(2)", x.lose(2), 60);
    }

    @Says("BAD; NULL.")
    static void p30_BAD_noSuchSheet() {
        for (Supplier<RelayRace> made : twoStates()) {
            eachOutside("lose", made, ints(0), ints(0, 3), (x, a) -> x.lose(a[0]), BAD);
        }
        eachOutside("lose", Boundary::fresh, ints(0), ints(0, 3), (x, a) -> x.lose(a[0]), BAD);
    }

    @Says("BAD; NULL.")
    static void p30_NULL_itIsLost() {
        refused("lose(3)", Boundary::some, (x, a) -> x.lose(3), NULL, 1);
        refused("lose(0)", Boundary::fresh, (x, a) -> x.lose(0), NULL, 1);
        refused("lose(0), LOST again", () -> lostOfForm(2), (x, a) -> x.lose(0), NULL, 1);
    }

    // ---- promise 31

    @Says("Item i, treated as of a FORM, becomes v (the lowest bits that it has): 1.")
    static void p31_theFirstAndTheLastItem() {
        for (int form = 0; form < 3; form++) {
            RelayRace x = new RelayRace();
            x.sheet(1, form, 60);
            due("put, the first", x.put(1, form, 0, 5), 1);
            due("put, the last", x.put(1, form, 59, 6), 1);
            due("get, the first", x.get(1, form, 0), 5);
            due("get, the second", x.get(1, form, 1), 0);
            due("get, the last but one", x.get(1, form, 58), 0);
            due("get, the last", x.get(1, form, 59), 6);
        }
    }

    @Says("Item i, treated as of a FORM, becomes v (the lowest bits that it has): 1.")
    static void p31_numbersThatAByteCannotHold() {
        int[][] held = {{127, 127}, {128, -128}, {255, -1}, {256, 0}, {-128, -128}, {-129, 127}, {384, -128},
            {MOST, -1}, {LEAST, 0}, {LEAST + 127, 127}};
        for (int[] h : held) putAndGet(0, h[0], h[1]);
    }

    @Says("Item i, treated as of a FORM, becomes v (the lowest bits that it has): 1.")
    static void p31_numbersThatAShortCannotHold() {
        int[][] held = {{32767, 32767}, {32768, -32768}, {65535, -1}, {65536, 0}, {-32768, -32768}, {-32769, 32767},
            {98304, -32768}, {MOST, -1}, {LEAST, 0}, {128, 128}, {-129, -129}};
        for (int[] h : held) putAndGet(1, h[0], h[1]);
    }

    @Says("Item i, treated as of a FORM, becomes v (the lowest bits that it has): 1.")
    static void p31_anIntHoldsEveryNumber() {
        for (int v : new int[] {LEAST, LEAST + 1, -65537, -1, 0, 65536, MOST}) putAndGet(2, v, v);
    }

    private static void putAndGet(int form, int v, int want) {
        RelayRace x = new RelayRace();
        x.sheet(0, form, 1);
        due("put(0, " + form + ", 0, " + v + ")", x.put(0, form, 0, v), 1);
        due("get(0, " + form + ", 0) of " + v, x.get(0, form, 0), want);
    }

    @Says("BAD; NULL; CAST; INDEX.")
    static void p31_BAD_noSuchSheetOrForm() {
        Act act = (x, a) -> x.put(a[0], a[1], 0, 1);
        for (Supplier<RelayRace> made : twoStates()) {
            eachOutside("put", made, ints(0, 0), ints(0, 3, 0, 2), act, BAD);
        }
    }

    @Says("BAD; NULL; CAST; INDEX.")
    static void p31_BAD_aheadOf_NULL() {
        eachOutside("put", Boundary::fresh, ints(0, 0), ints(0, 3, 0, 2), (x, a) -> x.put(a[0], a[1], 0, 1), BAD);
    }

    @Says("BAD; NULL; CAST; INDEX.")
    static void p31_NULL_aheadOf_CAST_and_INDEX() {
        refused("put(3, 0, 0, 1)", Boundary::some, (x, a) -> x.put(3, 0, 0, 1), NULL, 1);
        for (int i : new int[] {-1, 0, 3, 60, LEAST, MOST}) {
            for (int form = 0; form < 3; form++) {
                int as = form;
                refused("put(0, " + form + ", " + i + ", 1), LOST", () -> lostOfForm(1), (x, a) -> x.put(0, as, i, 1), NULL, 1);
            }
        }
    }

    @Says("BAD; NULL; CAST; INDEX.")
    static void p31_CAST_aheadOf_INDEX() {
        for (int i : new int[] {0, -1, 3, 60, LEAST, MOST}) {
            refused("put(0, 1, " + i + ", 1)", Boundary::some, (x, a) -> x.put(0, 1, i, 1), CAST, 3);
            refused("put(0, 2, " + i + ", 1)", Boundary::some, (x, a) -> x.put(0, 2, i, 1), CAST, 3);
            refused("put(2, 0, " + i + ", 1)", Boundary::some, (x, a) -> x.put(2, 0, i, 1), CAST, 3);
        }
    }

    @Says("BAD; NULL; CAST; INDEX.")
    static void p31_INDEX_noSuchItem() {
        for (int i : outside(0, 2)) {
            refused("put(0, 0, " + i + ", 1)", Boundary::some, (x, a) -> x.put(0, 0, i, 1), INDEX, 2);
        }
        for (int i : outside(0, 59)) {
            refused("put(2, 2, " + i + ", 1)", Boundary::full, (x, a) -> x.put(2, 2, i, 1), INDEX, 2);
        }
    }

    // ---- promise 32

    @Says("Item i of it.")
    static void p32_theFirstAndTheLastItem() {
        RelayRace x = new RelayRace();
        fill(x, 0, 0, -128, 0, 127);
        items(x, 0, 0, -128, 0, 127);
        fill(x, 1, 1, -32768, 0, 32767);
        items(x, 1, 1, -32768, 0, 32767);
        fill(x, 2, 2, LEAST, 0, MOST);
        items(x, 2, 2, LEAST, 0, MOST);
        due("count(8), the least int was no FINDING", x.count(8), 0);
        x.sheet(3, 2, 60);
        x.put(3, 2, 59, 8);
        due("get(3, 2, 59)", x.get(3, 2, 59), 8);
    }

    @Says("BAD: the least int; so are NULL, CAST, INDEX (count() 8 tells).")
    static void p32_BAD_isTheLeastIntAndNoFinding() {
        Act act = (x, a) -> x.get(a[0], a[1], 0);
        for (Supplier<RelayRace> made : twoStates()) {
            eachOutside("get", made, ints(0, 0), ints(0, 3, 0, 2), act, LEAST);
        }
    }

    @Says("BAD: the least int; so are NULL, CAST, INDEX (count() 8 tells).")
    static void p32_BAD_aheadOf_NULL() {
        eachOutside("get", Boundary::fresh, ints(0, 0), ints(0, 3, 0, 2), (x, a) -> x.get(a[0], a[1], 0), LEAST);
    }

    @Says("BAD: the least int; so are NULL, CAST, INDEX (count() 8 tells).")
    static void p32_NULL_aheadOf_CAST_and_INDEX() {
        for (int i : new int[] {-1, 0, 3, 60, LEAST, MOST}) {
            for (int form = 0; form < 3; form++) {
                int as = form;
                refused("get(0, " + form + ", " + i + "), LOST", () -> lostOfForm(1), (x, a) -> x.get(0, as, i), LEAST, 1);
            }
        }
    }

    @Says("BAD: the least int; so are NULL, CAST, INDEX (count() 8 tells).")
    static void p32_CAST_aheadOf_INDEX() {
        for (int i : new int[] {0, -1, 3, 60, LEAST, MOST}) {
            refused("get(0, 1, " + i + ")", Boundary::some, (x, a) -> x.get(0, 1, i), LEAST, 3);
            refused("get(2, 0, " + i + ")", Boundary::some, (x, a) -> x.get(2, 0, i), LEAST, 3);
        }
    }

    @Says("BAD: the least int; so are NULL, CAST, INDEX (count() 8 tells).")
    static void p32_INDEX_noSuchItem() {
        for (int i : outside(0, 2)) {
            refused("get(0, 0, " + i + ")", Boundary::some, (x, a) -> x.get(0, 0, i), LEAST, 2);
        }
        for (int i : outside(0, 59)) {
            refused("get(2, 2, " + i + ")", Boundary::full, (x, a) -> x.get(2, 2, i), LEAST, 2);
        }
        refused("get of no items", () -> {
            RelayRace x = some();
            x.sheet(0, 0, 0);
            return x;
        }, (x, a) -> x.get(0, 0, 0), LEAST, 2);
    }

    // ---- promise 33

    private static RelayRace rows() {
        RelayRace x = some();
        fill(x, 0, 1, 10, 20, 30, 40, 50);
        fill(x, 2, 1, 1, 2, 3);
        return x;
    }

    @Says("n items of SHEET s, from i on, come to SHEET t (perhaps s, as they were), from j on: 1.")
    static void p33_noItemsAndAllOfThem() {
        RelayRace x = rows();
        due("copy of none", x.copy(0, 0, 2, 0, 0), 1);
        due("copy of none, from end to end", x.copy(0, 5, 2, 3, 0), 1);
        items(x, 2, 1, 1, 2, 3);
        due("copy of three, to all there are", x.copy(0, 2, 2, 0, 3), 1);
        items(x, 2, 1, 30, 40, 50);
        items(x, 0, 1, 10, 20, 30, 40, 50);
        due("copy of one, the last to the last", x.copy(0, 4, 2, 2, 1), 1);
        items(x, 2, 1, 30, 40, 50);
        due("copy of one, the first to the last", x.copy(0, 0, 2, 2, 1), 1);
        items(x, 2, 1, 30, 40, 10);
    }

    @Says("n items of SHEET s, from i on, come to SHEET t (perhaps s, as they were), from j on: 1.")
    static void p33_sheetsOf0And60Items() {
        RelayRace x = new RelayRace();
        x.sheet(0, 0, 0);
        x.sheet(1, 0, 0);
        due("copy of none to none", x.copy(0, 0, 1, 0, 0), 1);
        due("copy of one from none", x.copy(0, 0, 1, 0, 1), INDEX);
        for (int s = 0; s < 2; s++) x.sheet(s, 2, 60);
        x.put(0, 2, 0, LEAST);
        x.put(0, 2, 59, MOST);
        due("copy of 60", x.copy(0, 0, 1, 0, 60), 1);
        due("get(1, 2, 0)", x.get(1, 2, 0), LEAST);
        due("get(1, 2, 59)", x.get(1, 2, 59), MOST);
        due("copy of 61", x.copy(0, 0, 1, 0, 61), INDEX);
    }

    @Says("n items of SHEET s, from i on, come to SHEET t (perhaps s, as they were), from j on: 1.")
    static void p33_ontoItselfAsTheyWere() {
        RelayRace x = rows();
        due("copy up", x.copy(0, 0, 0, 1, 4), 1);
        items(x, 0, 1, 10, 10, 20, 30, 40);
        due("copy down", x.copy(0, 1, 0, 0, 4), 1);
        items(x, 0, 1, 10, 20, 30, 40, 40);
        due("copy in place", x.copy(0, 0, 0, 0, 5), 1);
        items(x, 0, 1, 10, 20, 30, 40, 40);
        due("copy to its own end", x.copy(0, 5, 0, 5, 0), 1);
    }

    @Says("BAD: the SHEETS; NULL: s, t; STORE; INDEX: below 0, not so many.")
    static void p33_BAD_noSuchSheet() {
        Act act = (x, a) -> x.copy(a[0], 0, a[1], 0, 1);
        for (Supplier<RelayRace> made : twoStates()) {
            eachOutside("copy, from and to", made, ints(0, 0), ints(0, 3, 0, 3), act, BAD);
        }
    }

    @Says("BAD: the SHEETS; NULL: s, t; STORE; INDEX: below 0, not so many.")
    static void p33_BAD_aheadOf_NULL() {
        Act act = (x, a) -> x.copy(a[0], -1, a[1], -1, -1);
        eachOutside("copy, from and to", Boundary::fresh, ints(0, 0), ints(0, 3, 0, 3), act, BAD);
        eachOutside("copy, from and to", () -> lostOfForm(0), ints(0, 0), ints(0, 3, 0, 3), act, BAD);
    }

    @Says("BAD: the SHEETS; NULL: s, t; STORE; INDEX: below 0, not so many.")
    static void p33_NULL_aheadOf_STORE_and_INDEX() {
        // SHEET 0 was of shorts, SHEET 1 is, SHEET 2 holds ints.
        for (int n : new int[] {0, 1, -1, 61, LEAST, MOST}) {
            refused("copy from a LOST one, " + n, () -> lostOfForm(1), (x, a) -> x.copy(0, 0, 2, 0, n), NULL, 1);
            refused("copy to a LOST one, " + n, () -> lostOfForm(1), (x, a) -> x.copy(2, 0, 0, 0, n), NULL, 1);
            refused("copy from a LOST one, " + n, () -> lostOfForm(1), (x, a) -> x.copy(0, 0, 1, 0, n), NULL, 1);
            refused("copy to a LOST one, " + n, () -> lostOfForm(1), (x, a) -> x.copy(1, 0, 0, 0, n), NULL, 1);
            refused("copy of a LOST one onto itself", () -> lostOfForm(1), (x, a) -> x.copy(0, 0, 0, 0, n), NULL, 1);
        }
    }

    @Says("BAD: the SHEETS; NULL: s, t; STORE; INDEX: below 0, not so many.")
    static void p33_STORE_aheadOf_INDEX() {
        int[][] any = {{0, 0, 1}, {0, 0, 0}, {-1, 0, 1}, {0, -1, 1}, {0, 0, -1}, {0, 0, 61}, {LEAST, MOST, MOST}};
        for (int[] k : any) {
            refused(written("copy of unlike FORMS ", k), Boundary::some, (x, a) -> x.copy(0, a[0], 1, a[1], a[2]), k, STORE, 4);
            refused(written("copy of unlike FORMS ", k), Boundary::some, (x, a) -> x.copy(1, a[0], 0, a[1], a[2]), k, STORE, 4);
            refused(written("copy of unlike FORMS ", k), Boundary::some, (x, a) -> x.copy(2, a[0], 1, a[1], a[2]), k, STORE, 4);
        }
    }

    @Says("BAD: the SHEETS; NULL: s, t; STORE; INDEX: below 0, not so many.")
    static void p33_INDEX_below0() {
        int[][] below = {{-1, 0, 1}, {0, -1, 1}, {0, 0, -1}, {-1, 0, 0}, {0, -1, 0}, {LEAST, 0, 1}, {0, LEAST, 1},
            {0, 0, LEAST}, {1, 1, -1}, {LEAST, LEAST, LEAST}, {-1, -1, 2}};
        for (int[] k : below) {
            refused(written("copy, below 0 ", k), SheetsBoundaryTest::rows, (x, a) -> x.copy(0, a[0], 2, a[1], a[2]), k, INDEX, 2);
        }
    }

    @Says("BAD: the SHEETS; NULL: s, t; STORE; INDEX: below 0, not so many.")
    static void p33_INDEX_notSoMany() {
        // SHEET 0 has 5 items, SHEET 2 has 3.
        int[][] many = {{0, 0, 4}, {3, 0, 3}, {5, 0, 1}, {6, 0, 0}, {0, 3, 1}, {0, 4, 0}, {0, 1, 3}, {4, 0, 2}, {0, 0, 6},
            {MOST, 0, 1}, {0, MOST, 1}, {0, 0, MOST}, {1, 0, MOST}, {0, 1, MOST}, {MOST, MOST, MOST}, {MOST, 0, 0}};
        for (int[] k : many) {
            refused(written("copy, not so many ", k), SheetsBoundaryTest::rows, (x, a) -> x.copy(0, a[0], 2, a[1], a[2]), k, INDEX, 2);
        }
        refused("copy, not so many of s", SheetsBoundaryTest::rows, (x, a) -> x.copy(2, 0, 0, 0, 4), INDEX, 2);
        refused("copy, not so many of itself", SheetsBoundaryTest::rows, (x, a) -> x.copy(0, 0, 0, 1, 5), INDEX, 2);
    }

    // ---- promise 34

    @Says("How many metres a TEAM is from the start behind MOMENTS 0 on comes to a SHEET from item 0 on,")
    static void p34_fromItem0OnInEachForm() {
        for (int form = 0; form < 3; form++) {
            RelayRace x = told("d5d5d5d5;d9d9d9d9");
            x.sheet(3, form, 5);
            due("write(1, 3)", x.write(1, 3), 5);
            items(x, 3, form, 9, 18, 27, 36, 45);
            due("write(0, 3)", x.write(0, 3), 5);
            items(x, 3, form, 5, 10, 15, 20, 25);
        }
    }

    @Says("How many metres a TEAM is from the start behind MOMENTS 0 on comes to a SHEET from item 0 on,")
    static void p34_metresThatAByteCannotHold() {
        RelayRace x = race("d9d9d9d9", 60);
        x.sheet(0, 0, 48);
        x.sheet(1, 1, 48);
        due("write(0, 0)", x.write(0, 0), 48);
        due("write(0, 1)", x.write(0, 1), 48);
        // 126, 135, 243 and 243 metres.
        int[][] held = {{13, 126, 126}, {14, -121, 135}, {26, -13, 243}, {47, -13, 243}};
        for (int[] h : held) {
            due("get(0, 0, " + h[0] + ")", x.get(0, 0, h[0]), h[1]);
            due("get(1, 1, " + h[0] + ")", x.get(1, 1, h[0]), h[2]);
        }
    }

    @Says("as many as there are items, 48 at most: how many.")
    static void p34_of0To60Items() {
        int[] sizes = {0, 1, 2, 47, 48, 49, 60};
        int[] written = {0, 1, 2, 47, 48, 48, 48};
        for (int k = 0; k < sizes.length; k++) {
            RelayRace x = race("d1d1d1d1", 60);
            x.sheet(0, 2, sizes[k]);
            for (int i = 0; i < sizes[k]; i++) x.put(0, 2, i, 77);
            due("write(0, 0) to " + sizes[k] + " items", x.write(0, 0), written[k]);
            for (int i = 0; i < sizes[k]; i++) due("get(0, 2, " + i + ")", x.get(0, 2, i), i < written[k] ? i + 1 : 77);
        }
    }

    @Says("BAD; NULL.")
    static void p34_BAD_eachNumberOutside() {
        Act act = (x, a) -> x.write(a[0], a[1]);
        eachOutside("write", Boundary::some, ints(0, 0), ints(0, 2, 0, 3), act, BAD);
        eachOutside("write", Boundary::full, ints(3, 3), ints(0, 3, 0, 3), act, BAD);
        eachEdgeTaken("write", Boundary::full, ints(0, 0), ints(0, 3, 0, 3), act);
        badWithoutTeams("write", ints(0, 0), 0, act, BAD);
    }

    @Says("BAD; NULL.")
    static void p34_BAD_aheadOf_NULL() {
        eachOutside("write to SHEET 3, LOST,", Boundary::some, ints(0), ints(0, 2), (x, a) -> x.write(a[0], 3), BAD);
        badWithoutTeams("write to a LOST one", ints(0, 3), 0, (x, a) -> x.write(a[0], a[1]), BAD);
    }

    @Says("BAD; NULL.")
    static void p34_NULL_aLostSheet() {
        refused("write(0, 3)", Boundary::some, (x, a) -> x.write(0, 3), NULL, 1);
        refused("write(2, 0), LOST again", () -> lostOfForm(2), (x, a) -> x.write(2, 0), NULL, 1);
    }

    // ---- promise 35

    private static void counts(int what, RelayRace x, int want) {
        due("count(" + what + ")", x.count(what), want);
    }

    @Says("0 TEAMS,")
    static void p35_0_teams() {
        for (int n = 0; n <= 4; n++) counts(0, told(n == 0 ? "" : FOUR.substring(0, 9 * n - 1)), n);
        counts(0, told(FOUR.substring(0, 34)), 0);
    }

    @Says("1 bytes of the text,")
    static void p35_1_bytes() {
        for (int n = 0; n <= 35; n++) counts(1, told(FOUR.substring(0, n)), n);
        counts(1, told("xyz"), 3);
    }

    @Says("2 LONG,")
    static void p35_2_long() {
        counts(2, new RelayRace(), 30);
        counts(2, race("", 10), 10);
        counts(2, race("", 60), 60);
        counts(2, race("", 61), 30);
    }

    @Says("3 EVENTS,")
    static void p35_3_events() {
        RelayRace x = new RelayRace();
        counts(3, x, 0);
        for (int n = 1; n <= 9; n++) {
            x.event(TRIP, n, 0);
            counts(3, x, Math.min(8, n));
        }
        for (int n = 7; n >= 0; n--) {
            x.back();
            counts(3, x, n);
        }
    }

    @Says("4 how many TEAMS are HOME by MOMENT 47,")
    static void p35_4_teamsHome() {
        counts(4, new RelayRace(), 0);
        counts(4, told("d1d1d1d1"), 0);
        String four = "d5d5d5d5;d5d5d5d5;d5d5d5d5;d5d5d5d5";
        counts(4, race(four, 60), 4);
        counts(4, race(four, 60, TRIP, 47, 3), 3);
        counts(4, race(four, 60, TRIP, 47, 0, TRIP, 0, 1, TRIP, 9, 2), 1);
        counts(4, race(four, 60, RAIN, 47, 0), 0);
        counts(4, told(four.substring(0, 34)), 0);
    }

    @Says("5 CHANGES,")
    static void p35_5_changes() {
        counts(5, new RelayRace(), 0);
        counts(5, told("d5d5d5d5"), 0);
        counts(5, told("d5d5d5d5;n6n6n6n6"), 1);
        RelayRace x = race("d5d5d5d5;d5d5d5d5", 60, TRIP, 0, 0, TRIP, 1, 1, TRIP, 2, 0, TRIP, 3, 1,
                TRIP, 4, 0, TRIP, 5, 1, TRIP, 6, 0, TRIP, 7, 1);
        counts(5, x, 7);
    }

    @Says("6 metres of all TEAMS together behind MOMENT 47,")
    static void p35_6_metres() {
        counts(6, new RelayRace(), 0);
        counts(6, race("d1d1d1d1", 60), 48);
        counts(6, race("d1d1d1d1", 60, TRIP, 47, 0), 47);
        // Those of s9 are done with 65, 122, 187 and 244 metres.
        counts(6, race("d1d1d1d1;d2d2d2d2;d9d9d9d9;s9s9s9s9", 60), 48 + 96 + 243 + 244);
        counts(6, told("d5d5d5d5;"), 0);
    }

    @Says("7 SEEN,")
    static void p35_7_seen() {
        RelayRace x = new RelayRace();
        counts(7, x, 0);
        for (int n = 1; n <= 9; n++) {
            x.seen(n, 0, 0);
            counts(7, x, Math.min(8, n));
        }
        x.forget();
        counts(7, x, 0);
    }

    @Says("8 the number of the latest FINDING (0 before any).")
    static void p35_8_theLatestFinding() {
        RelayRace x = new RelayRace();
        counts(8, x, 0);
        x.lose(4);
        x.get(4, 0, 0);
        x.sheet(0, 0, 61);
        counts(8, x, 0);
        x.sheet(0, 0, -1);
        counts(8, x, 5);
        x.lose(0);
        counts(8, x, 1);
        x.sheet(0, 0, 1);
        x.sheet(1, 1, 1);
        counts(8, x, 1);
        x.copy(0, 0, 1, 0, 1);
        counts(8, x, 4);
        x.get(0, 1, 0);
        counts(8, x, 3);
        x.get(0, 0, 1);
        counts(8, x, 2);
        x.get(0, 0, 0);
        x.put(0, 0, 0, 1);
        x.digest();
        counts(8, x, 2);
    }

    @Says("8 the number of the latest FINDING (0 before any).")
    static void p35_8_itStaysWhateverElseIsCalled() {
        RelayRace x = some();
        counts(8, x, 5);
        tell(x, ";d5d5d5d5");
        x.undo();
        x.type('6');
        x.type(256);
        x.fault();
        x.along(33);
        x.event(TRIP, 3, 3);
        x.back();
        x.runner(0, 0, 0);
        x.at(0, 0, 0);
        x.home(0);
        x.lasted(0, 0);
        x.won(0);
        x.changes();
        x.leader(0);
        x.stood(0);
        x.order(0, 0);
        x.train(0, 0);
        x.fit(0);
        x.spare(0);
        x.seen(0, 0, 0);
        x.never();
        x.was(0, 0, 0);
        x.ask(0, 0);
        x.chance(5, 0, 0);
        x.years(7, 6, 0);
        x.forget();
        for (int s = 0; s < 4; s++) {
            x.sheet(s, 2, 5);
            x.put(s, 2, 0, 1);
            x.get(s, 2, 0);
            x.copy(s, 0, s, 1, 4);
            x.write(0, s);
            x.read(s);
            x.lose(s);
        }
        x.digest();
        x.wipe();
        x.undo();
        counts(8, x, 5);
    }

    @Says("BAD.")
    static void p35_BAD_outside0To8() {
        Act act = (x, a) -> x.count(a[0]);
        eachOutside("count", Boundary::some, ints(0), ints(0, 8), act, BAD);
        eachOutside("count", Boundary::fresh, ints(0), ints(0, 8), act, BAD);
        eachEdgeTaken("count", Boundary::full, ints(0), ints(0, 8), act);
    }

    // ---- promise 36

    private static long chain(long h, long... values) {
        long g = h;
        for (long v : values) g = 31 * g + v;
        return g;
    }

    @Says("h is 17; h becomes 31 h and each of:")
    static void p36_ofANewObject() {
        long h = chain(17, 0, 0, 30, 0, 0, 0, 0, 0, NONE);
        due("digest()", new RelayRace().digest(), chain(h, NONE, NONE, NONE, NONE, NONE, NONE, 0, NONE, NONE));
    }

    @Says("count() 0 to 7; fault();")
    static void p36_count8IsNotInIt() {
        RelayRace x = new RelayRace();
        long before = x.digest();
        x.lose(0);
        due("digest() behind a FINDING", x.digest(), before);
        // No TEAM: count(1) is 3 and fault() is 0.
        long h = chain(17, 0, 3, 30, 0, 0, 0, 0, 0, 0);
        due("digest() of xyz", told("xyz").digest(), chain(h, NONE, NONE, NONE, NONE, NONE, NONE, 0, NONE, NONE));
        // 8 EVENTS and 8 SEEN without a TEAM.
        x = new RelayRace();
        for (int n = 0; n < 8; n++) x.event(TRIP, n, 0);
        h = chain(17, 0, 0, 30, 8, 0, 0, 0, 0, NONE);
        due("digest() of 8 EVENTS", x.digest(), chain(h, NONE, NONE, NONE, NONE, NONE, NONE, 255, NONE, NONE));
        for (int n = 0; n < 8; n++) x.seen(n, 0, 0);
        h = chain(17, 0, 0, 30, 8, 0, 0, 0, 8, NONE);
        due("digest() of 8 SEEN", x.digest(), chain(h, NONE, NONE, NONE, NONE, NONE, NONE, 0, NONE, NONE));
    }

    @Says("of TEAMS, of MOMENTS 0, 9, 18, 30, 47 at(the MOMENT, it, 0 to 2), then of LEGS runner(it, the LEG, 0 and 1), "
            + "lasted(), was() 0, 1, ask(); then home(), stood(), order(it, 0 to 4), train() 0, 1, fit(), chance(5, it), above, below;")
    static void p36_ofOneTeamByHand() {
        // d5d5d5d5 alone: HOME in 23 with 120 metres; by a PACE of 6 in 22.
        long h = chain(17, 1, 8, 30, 0, 1, 0, 120, 0, NONE);
        h = chain(h, 5, 0, 0, 50, 1, 0, 95, 3, 0, 120, 4, 0, 120, 4, 0);
        for (int leg = 0; leg < 4; leg++) h = chain(h, 1, 5, 6, 1022, 7, 0);
        h = chain(h, 23, 0, 0, 1, 2, 3, 23, 0, 22, 10, 1, 1);
        RelayRace x = told("d5d5d5d5");
        h = chain(h, 0, 23, 0, 48, 0, NONE, 0, x.years(7, 6, 0), x.years(7, 6, 1));
        due("digest()", x.digest(), h);
    }

    @Says("won() 0, 1, leader() 0, 1, spare(NONE), spare(0), never(), years(7, 6, 0 and 1);")
    static void p36_ofNoTeamToFourTeamsByItsWords() {
        for (int n = 0; n <= 4; n++) {
            RelayRace x = race(n == 0 ? "" : FOUR.substring(0, 9 * n - 1), 20, TRIP, 1, 0, DROP, 3, 1, RAIN, 5, 0);
            x.seen(2, 0, 0);
            due("digest() of " + n + " TEAMS", x.digest(), byWords(x));
        }
        RelayRace x = full();
        x.forget();
        due("digest() of as much as there may be", x.digest(), byWords(x));
    }

    @Says("of TEAMS, of MOMENTS 0, 9, 18, 30, 47 at(the MOMENT, it, 0 to 2),")
    static void p36_theFiveMomentsOfATeamThatNeverComesHome() {
        // 2 metres more behind each MOMENT, LEG 0 to the end of it in 29.
        long h = chain(17, 1, 8, 60, 0, 0, 0, 96, 0, NONE);
        h = chain(h, 2, 0, 0, 20, 0, 0, 38, 0, 0, 62, 1, 0, 96, 1, 0);
        for (int leg = 0; leg < 4; leg++) h = chain(h, 1, 2, leg == 0 ? 30 : NONE, 1022, 7, 0);
        h = chain(h, NONE, 0, NONE, NONE, NONE, NONE, NONE, NONE, NONE, 10, 0, 1);
        RelayRace x = race("d2d2d2d2", 60);
        due("digest()", x.digest(), chain(h, NONE, NONE, 0, 48, NONE, NONE, 0, NONE, NONE));
    }

    @Says("spare(0), never(), years(7, 6, 0 and 1);")
    static void p36_theYearsOfSeed7With6Events() {
        // By 6 EVENTS TEAM 1 has WON in 46; by 5 TEAM 2, by 7 none, by 6 of SEED 6 none.
        RelayRace x = race("s4d2s4s3;d4d2d4d4;s6n3d2n5", 27);
        due("years(7, 6, 0)", x.years(7, 6, 0), 1);
        due("years(7, 6, 1)", x.years(7, 6, 1), 46);
        due("years(7, 5, 0)", x.years(7, 5, 0), 2);
        due("years(7, 7, 0)", x.years(7, 7, 0), NONE);
        due("years(6, 6, 0)", x.years(6, 6, 0), NONE);
        due("digest()", x.digest(), byWords(x));
    }

    @Says("as longs that wrap.")
    static void p36_longsThatWrap() {
        // 17 is multiplied by 31 eighteen times, which no long can hold.
        BigInteger h = BigInteger.valueOf(17);
        int[] all = {0, 0, 30, 0, 0, 0, 0, 0, NONE, NONE, NONE, NONE, NONE, NONE, NONE, 0, NONE, NONE};
        for (int v : all) h = h.multiply(BigInteger.valueOf(31)).add(BigInteger.valueOf(v));
        if (h.bitLength() < 64) fail("the sum does not wrap");
        due("digest()", new RelayRace().digest(), h.longValue());
    }

    private static long byWords(RelayRace x) {
        long h = 17;
        for (int w = 0; w < 8; w++) h = chain(h, x.count(w));
        h = chain(h, x.fault());
        for (int t = 0; t < x.count(0); t++) {
            for (int m : new int[] {0, 9, 18, 30, 47}) h = chain(h, x.at(m, t, 0), x.at(m, t, 1), x.at(m, t, 2));
            for (int leg = 0; leg < 4; leg++) {
                h = chain(h, x.runner(t, leg, 0), x.runner(t, leg, 1), x.lasted(t, leg));
                h = chain(h, x.was(t, leg, 0), x.was(t, leg, 1), x.ask(t, leg));
            }
            h = chain(h, x.home(t), x.stood(t));
            for (int i = 0; i < 5; i++) h = chain(h, x.order(t, i));
            h = chain(h, x.train(t, 0), x.train(t, 1), x.fit(t), x.chance(5, t, 0), x.chance(5, t, 1));
        }
        h = chain(h, x.won(0), x.won(1), x.leader(0), x.leader(1), x.spare(NONE), x.spare(0), x.never());
        return chain(h, x.years(7, 6, 0), x.years(7, 6, 1));
    }
}
