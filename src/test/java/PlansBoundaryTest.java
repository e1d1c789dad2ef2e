/** Boundary cases of section 3 and of promises 18 to 21: ORDER, TRAIN, FIT, SPARE. */
public final class PlansBoundaryTest extends Boundary {
    private static final String LIKE = "d5d5d5d5;d5d5d5d5";

    public static void main(String[] args) throws IllegalAccessException {
        runAll(PlansBoundaryTest.class);
    }

    // ---- ORDER

    @Says("ORDER of a TEAM: the row of its RUNNERS (each by the LEG told), by which it is HOME soonest,")
    static void s3_orderFromTheLeastRowToTheGreatest() {
        // By LEGS of 14 the row s5 d9 s2 d8 alone is HOME in 8: 18, 36, 42 and 58 metres.
        String[] best = {"s5", "d9", "s2", "d8"};
        for (int a = 0; a < 4; a++) {
            for (int b = 0; b < 4; b++) {
                for (int c = 0; c < 4; c++) {
                    if (a == b || a == c || b == c) continue;
                    int[] legs = {a, b, c, 6 - a - b - c};
                    String[] told = new String[4];
                    for (int i = 0; i < 4; i++) told[legs[i]] = best[i];
                    RelayRace x = race(String.join("", told), 14);
                    orders(x, 0, legs[0], legs[1], legs[2], legs[3], 8);
                }
            }
        }
    }

    @Says("ORDER of a TEAM: the row of its RUNNERS (each by the LEG told), by which it is HOME soonest,")
    static void s3_orderOfEachTeamWithItsOwnEvents() {
        RelayRace x = race("s5d9s2d8;d8s2d9s5", 14, TRIP, 9, 0, TRIP, 40, 1);
        orders(x, 0, 0, 1, 2, 3, 8);
        orders(x, 1, 3, 2, 1, 0, 8);
    }

    @Says("of like ones the least row: the i-th; the MOMENT;")
    static void s3_orderOfLikeOnes() {
        orders(told("d5d5d5d5"), 0, 0, 1, 2, 3, 23);
        orders(told("s1s1s1s1;n9n9n9n9"), 1, 0, 1, 2, 3, 13);
        // HOME in 47 by whichever row the d9 does not run last: the least of these.
        orders(race("d1d1d1d9", 16), 0, 0, 1, 3, 2, 47);
    }

    @Says("the i-th; the MOMENT; NONE: by none.")
    static void s3_orderByNone() {
        orders(race("d1d1d1d9", 17), 0, NONE, NONE, NONE, NONE, NONE);
        orders(race("d5d5d5d5", 60), 0, 0, 1, 2, 3, 47);
        orders(race("d5d5d5d5", 60, TRIP, 47, 0), 0, NONE, NONE, NONE, NONE, NONE);
    }

    // ---- TRAIN

    @Says("TRAIN of a TEAM: the RUNNER whose PACE had better be 1 more (9 at most), so that it is HOME soonest,")
    static void s3_trainTheFirstToTheLastRunner() {
        // By a PACE of 2 the slow one takes 15, 12, 14 and 15 MOMENTS: those ahead come past their ends by 6 and 3.
        trains(told("d1d9d9d9"), 0, 0, 24);
        trains(told("d9d1d9d9"), 0, 1, 22);
        trains(told("d9d9d1d9"), 0, 2, 24);
        trains(told("d9d9d9d1"), 0, 3, 24);
    }

    @Says("TRAIN of a TEAM: the RUNNER whose PACE had better be 1 more (9 at most), so that it is HOME soonest,")
    static void s3_trainAPaceOf9StaysAt9() {
        // By LEGS of 60: 63, 126, 180 and 243 metres behind 6, 13, 19 and 26; a PACE of 10 would be HOME in 25.
        trains(race("d9d9d9d9", 60), 0, 0, 26);
        trains(told("d9d9d9d9"), 0, 0, 13);
        trains(race("d9d9d9d8", 60), 0, 3, 26);
    }

    @Says("of like ones the least: which; the MOMENT;")
    static void s3_trainOfLikeOnes() {
        trains(told("d5d5d5d5"), 0, 0, 22);
        trains(told("d1d1d1d1;d5d5d5d5"), 1, 0, 22);
        // RUNNERS 1 and 2 save one MOMENT each, the others none.
        trains(told("d9d5d5d9"), 0, 1, 17);
    }

    @Says("which; the MOMENT; NONE: by none.")
    static void s3_trainByNone() {
        trains(told("d1d1d1d1"), 0, NONE, NONE);
        // Two TRIPS: only with a PACE of 6 it is HOME, in 47; with one more TRIP it never is.
        RelayRace x = race("d5d5d5d5", 60, TRIP, 0, 0, TRIP, 1, 0);
        due("home(0)", x.home(0), NONE);
        trains(x, 0, 0, 47);
        x.event(TRIP, 2, 0);
        trains(x, 0, NONE, NONE);
    }

    // ---- FIT

    @Says("FIT of a TEAM: the least LONG (10 to 60) by which it has WON; NONE.")
    static void s3_fitFrom10To60() {
        due("fit(0), the least", told(LIKE).fit(0), 10);
        // By 59 HOME in 42 and 41; by 60 both in 42, with 243 metres and 242.
        due("fit(0), the greatest", told("d5d5d5d9;s6s6s6d5").fit(0), 60);
        due("fit(1), whatever LONG is told", race("d5d5d5d5;d6d6d6d6", 60).fit(1), 10);
    }

    @Says("FIT of a TEAM: the least LONG (10 to 60) by which it has WON; NONE.")
    static void s3_fitNeitherBy9NorBy61() {
        // By 9 metres the first would have WON: HOME in 4 with 36, the other in 5.
        due("fit(0), never above 9", told("n9s6s5n7;s8n7d7n7").fit(0), NONE);
        due("fit(0), never below 61", told("n6n8d7d8;n9s5n9n8").fit(0), NONE);
        due("fit(1), never below 61", told("s4d9s6d5;n6n5d7n4").fit(1), NONE);
    }

    @Says("FIT of a TEAM: the least LONG (10 to 60) by which it has WON; NONE.")
    static void s3_fitNone() {
        due("fit(1) of like ones", told(LIKE).fit(1), NONE);
        // 40 metres with PACE 1 take 40 MOMENTS: 8 may be stood, 9 may not.
        due("fit(0), never HOME", race("d1d1d1d1", 30, DROP, 0, 0, DROP, 3, 0, DROP, 45, 0).fit(0), NONE);
        due("fit(0), HOME in 47", race("d1d1d1d1", 30, DROP, 0, 0, DROP, 3, 0, TRIP, 8, 0, TRIP, 9, 0).fit(0), 10);
        due("fit(0), never HOME", race("d1d1d1d1", 30, DROP, 0, 0, DROP, 3, 0, DROP, 8, 0).fit(0), NONE);
    }

    // ---- SPARE

    @Says("SPARE: the fewest EVENTS (0 to 2) that had better not be, so that TEAM 0 has WON,")
    static void s3_spareNoneOfNoEventAndOf8() {
        spares(told(LIKE), 0, NONE, NONE);
        RelayRace x = told(LIKE);
        for (int e = 0; e < 8; e++) x.event(TRIP, e, 1);
        spares(x, 0, NONE, NONE);
    }

    @Says("SPARE: the fewest EVENTS (0 to 2) that had better not be, so that TEAM 0 has WON,")
    static void s3_spareOneFromTheFirstToTheLast() {
        for (int which = 0; which < 8; which++) {
            RelayRace x = told(LIKE);
            for (int e = 0; e < 8; e++) x.event(e == which ? TRIP : RAIN, e, 0);
            spares(x, 1, which, NONE);
        }
    }

    @Says("SPARE: the fewest EVENTS (0 to 2) that had better not be, so that TEAM 0 has WON,")
    static void s3_spareTwoFromTheFirstToTheLast() {
        for (int first = 0; first < 8; first++) {
            for (int second = first + 1; second < 8; second++) {
                RelayRace x = told(LIKE);
                for (int e = 0; e < 8; e++) x.event(e == first || e == second ? TRIP : RAIN, e, 0);
                spares(x, 2, first, second);
            }
        }
    }

    @Says("SPARE: the fewest EVENTS (0 to 2) that had better not be, so that TEAM 0 has WON,")
    static void s3_spareOneRatherThanALesserTwo() {
        // TEAM 0 stands 5 MOMENTS and TEAM 1 three: EVENTS 0 and 1 would do, but so does EVENT 3 alone.
        spares(race(LIKE, 30, TRIP, 0, 0, TRIP, 1, 0, DROP, 0, 1, DROP, 2, 0), 1, 3, NONE);
    }

    @Says("of like ones the least row (each more than the one ahead): how many; the i-th; NONE.")
    static void s3_spareOfLikeOnes() {
        // TEAM 0 stands three MOMENTS and TEAM 1 two: any one will do; then three to one: any two.
        spares(race(LIKE, 30, TRIP, 0, 0, TRIP, 1, 0, TRIP, 2, 0, TRIP, 0, 1, TRIP, 1, 1), 1, 0, NONE);
        spares(race(LIKE, 30, TRIP, 0, 0, TRIP, 1, 0, TRIP, 2, 0, TRIP, 0, 1), 2, 0, 1);
        spares(race(LIKE, 30, TRIP, 0, 1, TRIP, 0, 0, RAIN, 0, 0, TRIP, 1, 0, TRIP, 2, 0), 2, 1, 3);
    }

    @Says("of like ones the least row (each more than the one ahead): how many; the i-th; NONE.")
    static void s3_spareNone() {
        spares(new RelayRace(), NONE, NONE, NONE);
        spares(race("", 30, TRIP, 0, 0), NONE, NONE, NONE);
        spares(told("d5d5d5d5;d6d6d6d6"), NONE, NONE, NONE);
        spares(told("d1d1d1d1"), NONE, NONE, NONE);
        // Three would have to go.
        spares(race(LIKE, 30, TRIP, 0, 0, TRIP, 1, 0, TRIP, 2, 0), NONE, NONE, NONE);
        // One that is alone must be HOME all the same, here in 47.
        spares(race("d5d5d5d5", 60, TRIP, 0, 0), 1, 0, NONE);
    }

    // ---- promise 18

    @Says("ORDER: the i-th RUNNER (0 to 3), the MOMENT (4); NONE.")
    static void p18_eachOfFiveAnswers() {
        RelayRace x = race("d8s2d9s5;d1d1d1d1;d1d1d1d1;d5d5d5d5", 14);
        orders(x, 0, 3, 2, 1, 0, 8);
        orders(x, 3, 0, 1, 2, 3, 11);
    }

    @Says("ORDER: the i-th RUNNER (0 to 3), the MOMENT (4); NONE.")
    static void p18_NONE_forEachOfFive() {
        orders(told("d1d1d1d1"), 0, NONE, NONE, NONE, NONE, NONE);
    }

    @Says("BAD.")
    static void p18_BAD_eachNumberOutside() {
        Act act = (x, a) -> x.order(a[0], a[1]);
        eachOutside("order", Boundary::some, ints(0, 0), ints(0, 2, 0, 4), act, BAD);
        eachOutside("order", Boundary::full, ints(3, 4), ints(0, 3, 0, 4), act, BAD);
        eachOutside("order", () -> told("d1d1d1d1"), ints(0, 0), ints(0, 0, 0, 4), act, BAD);
        eachEdgeTaken("order", Boundary::full, ints(0, 0), ints(0, 3, 0, 4), act);
        badWithoutTeams("order", ints(0, 0), 0, act, BAD);
    }

    // ---- promise 19

    @Says("TRAIN: which (what = 0), the MOMENT (1); NONE.")
    static void p19_whichAndWhen() {
        RelayRace x = told("d1d9d9d9;d9d1d9d9;d9d9d1d9;d9d9d9d1");
        trains(x, 0, 0, 24);
        trains(x, 3, 3, 24);
    }

    @Says("TRAIN: which (what = 0), the MOMENT (1); NONE.")
    static void p19_NONE_forBoth() {
        trains(told("d1d1d1d1"), 0, NONE, NONE);
    }

    @Says("BAD.")
    static void p19_BAD_eachNumberOutside() {
        Act act = (x, a) -> x.train(a[0], a[1]);
        eachOutside("train", Boundary::some, ints(0, 0), ints(0, 2, 0, 1), act, BAD);
        eachOutside("train", Boundary::full, ints(3, 1), ints(0, 3, 0, 1), act, BAD);
        eachOutside("train", () -> told("d1d1d1d1"), ints(0, 0), ints(0, 0, 0, 1), act, BAD);
        eachEdgeTaken("train", Boundary::full, ints(0, 0), ints(0, 3, 0, 1), act);
        badWithoutTeams("train", ints(0, 0), 0, act, BAD);
    }

    // ---- promise 20

    @Says("FIT; NONE.")
    static void p20_10And60AndNone() {
        due("fit(3)", told("d1d1d1d1;d2d2d2d2;d3d3d3d3;d9d9d9d9").fit(3), 10);
        due("fit(0)", told("d5d5d5d9;s6s6s6d5").fit(0), 60);
        due("fit(1)", told("d5d5d5d9;s6s6s6d5").fit(1), 10);
        due("fit(0)", told("d1d1d1d1;d2d2d2d2;d3d3d3d3;d9d9d9d9").fit(0), NONE);
    }

    @Says("FIT; NONE.")
    static void p20_LONGstaysAsTold() {
        RelayRace x = race(LIKE, 44);
        x.fit(0);
        x.fit(1);
        due("count(2)", x.count(2), 44);
        lasts(x, 0, 9, 9, 9, 9);
    }

    @Says("BAD.")
    static void p20_BAD_noSuchTeam() {
        Act act = (x, a) -> x.fit(a[0]);
        eachOutside("fit", Boundary::some, ints(0), ints(0, 2), act, BAD);
        eachOutside("fit", Boundary::full, ints(0), ints(0, 3), act, BAD);
        eachEdgeTaken("fit", Boundary::full, ints(0), ints(0, 3), act);
        badWithoutTeams("fit", ints(0), 0, act, BAD);
    }

    // ---- promise 21

    @Says("SPARE: how many (i = NONE), the i-th (0, 1; NONE); NONE.")
    static void p21_howManyTheFirstTheSecond() {
        spares(told(LIKE), 0, NONE, NONE);
        spares(race(LIKE, 30, TRIP, 0, 0), 1, 0, NONE);
        spares(race(LIKE, 30, TRIP, 0, 0, TRIP, 1, 0), 2, 0, 1);
    }

    @Says("SPARE: how many (i = NONE), the i-th (0, 1; NONE); NONE.")
    static void p21_NONE_moreThanTwo() {
        spares(race(LIKE, 30, TRIP, 0, 0, TRIP, 1, 0, TRIP, 2, 0), NONE, NONE, NONE);
        spares(new RelayRace(), NONE, NONE, NONE);
    }

    @Says("BAD.")
    static void p21_BAD_outsideNoneTo1() {
        Act act = (x, a) -> x.spare(a[0]);
        eachOutside("spare", Boundary::some, ints(0), ints(NONE, 1), act, BAD);
        eachOutside("spare", Boundary::full, ints(0), ints(NONE, 1), act, BAD);
        eachOutside("spare", Boundary::fresh, ints(0), ints(NONE, 1), act, BAD);
        eachEdgeTaken("spare", () -> race(LIKE, 30, TRIP, 0, 0, TRIP, 1, 0), ints(0), ints(NONE, 1), act);
    }
}
