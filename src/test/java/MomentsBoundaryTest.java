/** Boundary cases of section 2 and of promises 11 to 17: metres, LEG, RANK, HOME, LASTED, WON, CHANGES, LEADER, STOOD. */
public final class MomentsBoundaryTest extends Boundary {
    private static final String LIKE = "d5d5d5d5;d5d5d5d5";
    private static final String FOUR_LIKE = "d5d5d5d5;d5d5d5d5;d5d5d5d5;d5d5d5d5";

    public static void main(String[] args) throws IllegalAccessException {
        runAll(MomentsBoundaryTest.class);
    }

    // ---- section 2

    @Says("Behind a MOMENT of a TEAM: how many metres it is from the start;")
    static void s2_metresBehindTheFirstAndTheLastMoment() {
        RelayRace x = race("d1d1d1d1;s9s9s9s9", 60);
        metres(x, 0, 0, 1);
        metres(x, 0, 47, 48);
        metres(x, 1, 0, 10);
        metres(race("d1d1d1d1", 60, TRIP, 0, 0), 0, 0, 0);
    }

    @Says("its LEG (4: HOME);")
    static void s2_legsFrom0ToHome() {
        RelayRace x = race("d5d5d5d5", 60);
        int[][] legs = {{0, 0}, {10, 0}, {11, 1}, {22, 1}, {23, 2}, {34, 2}, {35, 3}, {46, 3}, {47, 4}};
        for (int[] l : legs) due("at(" + l[0] + ", 0, 1)", x.at(l[0], 0, 1), l[1]);
        x = race("s9s9s9s9", 10);
        due("at(3, 0, 1)", x.at(3, 0, 1), 4);
        due("at(4, 0, 1)", x.at(4, 0, 1), 4);
        due("at(47, 0, 1) of a slow one", told("d1d1d1d1").at(47, 0, 1), 1);
    }

    @Says("its RANK: how many TEAMS are ahead of it:")
    static void s2_rank0To3() {
        RelayRace x = told("d9d9d9d9;d7d7d7d7;d5d5d5d5;d3d3d3d3");
        for (int m : new int[] {0, 1, 30, 47}) ranks(x, m, 0, 1, 2, 3);
        x = told("d3d3d3d3;d5d5d5d5;d7d7d7d7;d9d9d9d9");
        for (int m : new int[] {0, 1, 30, 47}) ranks(x, m, 3, 2, 1, 0);
        for (int m : new int[] {0, 23, 47}) ranks(told("d5d5d5d5"), m, 0);
    }

    @Says("those that are HOME are ahead of others,")
    static void s2_oneHomeIsAheadOfOneNotHome() {
        // As far until MOMENT 5; behind MOMENT 7 TEAM 1 is HOME with 40 metres, TEAM 0 comes with 42.
        RelayRace x = race("d5d5d5d4;d5d5d5d5", 10);
        metres(x, 0, 5, 30, 34, 38, 42);
        metres(x, 1, 5, 30, 35, 40, 40);
        ranks(x, 5, 0, 1);
        ranks(x, 7, 1, 0);
        ranks(x, 8, 1, 0);
    }

    @Says("of two of them who came sooner;")
    static void s2_whoCameSoonerStaysAheadOfWhoIsFarther() {
        RelayRace x = race("n9n9n9n9;d8d8d8d8", 10, TRIP, 0, 0);
        due("home(0)", x.home(0), 5);
        due("home(1)", x.home(1), 4);
        metres(x, 0, 47, 42);
        metres(x, 1, 47, 40);
        ranks(x, 5, 1, 0);
        ranks(x, 47, 1, 0);
    }

    @Says("else, and of those who came in one MOMENT, who is farther;")
    static void s2_whoIsFartherByOneMetre() {
        RelayRace x = race("d8d8d8d8;d9d8d8d8", 10);
        due("home(0)", x.home(0), 4);
        due("home(1)", x.home(1), 4);
        ranks(x, 4, 1, 0);
        ranks(x, 47, 1, 0);
        ranks(race("d4d4d4d4;d5d5d5d5", 60), 0, 1, 0);
    }

    @Says("of as far ones who has the less number.")
    static void s2_likeOnesByTheirNumber() {
        RelayRace x = told(FOUR_LIKE);
        for (int m : new int[] {0, 10, 22, 23, 47}) ranks(x, m, 0, 1, 2, 3);
        // Behind MOMENT 1 both are at 5 metres: TEAM 1 tripped in 0, TEAM 2 in 1.
        x = race("d1d1d1d1;d5d5d5d5;d5d5d5d5", 60, TRIP, 0, 1, TRIP, 1, 2);
        ranks(x, 0, 1, 2, 0);
        ranks(x, 1, 2, 0, 1);
    }

    @Says("HOME of a TEAM: the MOMENT; NONE.")
    static void s2_homeFromMoment3To47() {
        due("home(0), as soon as may be", race("s9s9s9s9", 10).home(0), 3);
        due("home(0), at the very last", race("d5d5d5d5", 60).home(0), 47);
        due("home(0), too late by a MOMENT", race("d5d5d5d5", 60, TRIP, 20, 0).home(0), NONE);
        due("home(0), too late by 4 metres", race("d5d5d5d5", 60, RAIN, 44, 0).home(0), NONE);
        due("home(0), never", told("d1d1d1d1").home(0), NONE);
    }

    @Says("LASTED of a LEG of a TEAM: how many MOMENTS;")
    static void s2_legsLast1To48Moments() {
        lasts(race("s9s9s9s9", 10), 0, 1, 1, 1, 1);
        lasts(race("d1d1d1d1", 48), 0, 48, NONE, NONE, NONE);
        lasts(race("d5d5d5d5", 60), 0, 12, 12, 12, 12);
        // The MOMENTS in which it stands are among them.
        lasts(race("d5d5d5d5", 10, DROP, 2, 0), 0, 2, 5, 2, 2);
    }

    @Says("NONE: it is not done by MOMENT 47.")
    static void s2_aLegThatIsNotDone() {
        lasts(race("d1d1d1d1", 49), 0, NONE, NONE, NONE, NONE);
        lasts(race("d5d5d5d5", 60, TRIP, 47, 0), 0, 12, 12, 12, NONE);
        lasts(race("d1d1d1d1", 24), 0, 24, 24, NONE, NONE);
    }

    @Says("WON: the TEAM that is HOME soonest,")
    static void s2_wonByOneMoment() {
        wins(race("d5d5d5d5;d5d5d5d5", 10, TRIP, 0, 0), 1, 7);
        wins(race("n9n9n9n9;d8d8d8d8", 10, TRIP, 0, 0), 1, 4);
        wins(race("d5d5d5d5;d5d5d5d5", 60, TRIP, 0, 0), 1, 47);
        wins(race("d5d5d5d5;d5d5d5d5", 60, TRIP, 47, 0), 1, 47);
        wins(told("d9d9d9d9;d7d7d7d7;d5d5d5d5;d3d3d3d3"), 0, 13);
        wins(told("d3d3d3d3;d5d5d5d5;d7d7d7d7;d9d9d9d9"), 3, 13);
    }

    @Says("of like ones the farther one, then the least;")
    static void s2_wonByOneMetreThenByTheNumber() {
        wins(race("d8d8d8d8;d9d8d8d8", 10), 1, 4);
        wins(race("d1d1d1d1;d8d8d8d8;d9d8d8d8;d9d8d8d8", 10), 2, 4);
        wins(told(FOUR_LIKE), 0, 23);
        wins(race(FOUR_LIKE, 30, TRIP, 0, 0, TRIP, 0, 1), 2, 23);
    }

    @Says("NONE: none is HOME.")
    static void s2_nobodyHasWon() {
        wins(new RelayRace(), NONE, NONE);
        wins(told("d1d1d1d1;d2d2d2d2"), NONE, NONE);
        wins(race(LIKE, 60, TRIP, 0, 0, TRIP, 47, 1), NONE, NONE);
        wins(race(LIKE, 60, TRIP, 0, 0), 1, 47);
    }

    @Says("CHANGES: behind how many MOMENTS another TEAM has RANK 0 than behind the one ahead.")
    static void s2_aChangeBehindMoment1AndBehindMoment47() {
        // 5 and 5 metres, then 10 and 11.
        due("changes(), behind MOMENT 1", told("d5d5d5d5;n6n6n6n6").changes(), 1);
        due("changes(), behind MOMENT 47", race("d1d1d1d1;d1d1d1d1", 60, TRIP, 47, 0).changes(), 1);
    }

    @Says("CHANGES: behind how many MOMENTS another TEAM has RANK 0 than behind the one ahead.")
    static void s2_noChangeBehindMoment0() {
        due("changes() without TEAMS", new RelayRace().changes(), 0);
        due("changes() of one", told("d5d5d5d5").changes(), 0);
        due("changes(), TEAM 1 leads at once", told("d5d5d5d5;d6d6d6d6").changes(), 0);
        due("changes(), TEAM 3 leads at once", told("d3d3d3d3;d5d5d5d5;d7d7d7d7;d9d9d9d9").changes(), 0);
        due("changes() of like ones", told(FOUR_LIKE).changes(), 0);
    }

    @Says("CHANGES: behind how many MOMENTS another TEAM has RANK 0 than behind the one ahead.")
    static void s2_aChangeBehindEachOfManyMoments() {
        // They trip by turns: TEAM 1 leads behind 0, 2, 4 and 6, TEAM 0 behind 1, 3, 5 and from 7 on.
        RelayRace x = race(LIKE, 60, TRIP, 0, 0, TRIP, 1, 1, TRIP, 2, 0, TRIP, 3, 1,
                TRIP, 4, 0, TRIP, 5, 1, TRIP, 6, 0, TRIP, 7, 1);
        due("changes()", x.changes(), 7);
        due("leader(0)", x.leader(0), 0);
        due("leader(1)", x.leader(1), 44);
    }

    @Says("of as far ones who has the less number.")
    static void s2_rank0BehindAMomentInWhichAllStand() {
        RelayRace x = race(LIKE, 60, TRIP, 0, 0, TRIP, 0, 1);
        ranks(x, 0, 0, 1);
        due("changes()", x.changes(), 0);
        leads(x, 0, 48);
        leads(race("d5d5d5d5", 60, DROP, 0, 0), 0, 48);
        leads(race("d5d5d5d5;d6d6d6d6", 60, DROP, 0, 0, DROP, 0, 1), 1, 45);
        due("changes()", race("d5d5d5d5;d6d6d6d6", 60, DROP, 0, 0, DROP, 0, 1).changes(), 1);
    }

    @Says("LEADER: who has RANK 0 behind most MOMENTS,")
    static void s2_leaderBehindAllMoments() {
        leads(told("d5d5d5d5"), 0, 48);
        leads(told("d3d3d3d3;d5d5d5d5;d7d7d7d7;d9d9d9d9"), 3, 48);
        leads(race(LIKE, 60, TRIP, 23, 0), 1, 25);
        leads(race(LIKE, 60, TRIP, 25, 0), 0, 25);
        // Not HOME, not far, yet ahead.
        leads(race("d1d1d1d1;d1d1d1d1", 60, TRIP, 0, 0), 1, 48);
    }

    private static void leads(RelayRace x, int who, int howOften) {
        due("leader(0)", x.leader(0), who);
        due("leader(1)", x.leader(1), howOften);
    }

    @Says("of like ones the least; behind how many;")
    static void s2_leaderOfLikeOnes() {
        leads(race(LIKE, 60, TRIP, 24, 0), 0, 24);
        // TEAM 2 leads 24 MOMENTS first, then TEAM 1 as many.
        leads(race("d1d1d1d1;d5d5d5d5;d5d5d5d5", 60, TRIP, 0, 1, DROP, 24, 2), 1, 24);
    }

    @Says("NONE: there are none.")
    static void s2_noLeaderWithoutTeams() {
        leads(new RelayRace(), NONE, NONE);
        leads(told("d5d5d5d5;"), NONE, NONE);
    }

    @Says("STOOD of a TEAM: in how many MOMENTS it stands (ahead of HOME).")
    static void s2_stood0To24Moments() {
        due("stood(0), no EVENT", told("d5d5d5d5").stood(0), 0);
        due("stood(0), 8 DROPS", race("d1d1d1d1", 60, DROP, 0, 0, DROP, 3, 0, DROP, 6, 0, DROP, 9, 0,
                DROP, 12, 0, DROP, 15, 0, DROP, 18, 0, DROP, 21, 0).stood(0), 24);
        due("stood(0), 8 like DROPS", race("d1d1d1d1", 60, DROP, 5, 0, DROP, 5, 0, DROP, 5, 0, DROP, 5, 0,
                DROP, 5, 0, DROP, 5, 0, DROP, 5, 0, DROP, 5, 0).stood(0), 3);
        due("stood(0), DROPS that overlap", race("d1d1d1d1", 60, DROP, 5, 0, DROP, 7, 0, TRIP, 6, 0).stood(0), 5);
    }

    @Says("STOOD of a TEAM: in how many MOMENTS it stands (ahead of HOME).")
    static void s2_stoodInTheLastMoments() {
        int[] want = {3, 3, 2, 1};
        for (int m = 44; m < 48; m++) {
            due("stood(0), DROP in " + m, race("d1d1d1d1", 60, DROP, m, 0).stood(0), want[m - 44]);
            due("stood(0), TRIP in " + m, race("d1d1d1d1", 60, TRIP, m, 0).stood(0), 1);
        }
    }

    @Says("STOOD of a TEAM: in how many MOMENTS it stands (ahead of HOME).")
    static void s2_noStandingBehindHome() {
        // HOME in 7: a TRIP in 7 puts it off to 8, one in 8 comes too late.
        due("stood(0)", race("d5d5d5d5", 10, TRIP, 6, 0).stood(0), 1);
        due("stood(0)", race("d5d5d5d5", 10, TRIP, 7, 0).stood(0), 1);
        due("stood(0)", race("d5d5d5d5", 10, TRIP, 8, 0).stood(0), 0);
        due("stood(0)", race("d5d5d5d5", 10, TRIP, 47, 0).stood(0), 0);
        due("stood(0)", race("d5d5d5d5", 10, TRIP, 7, 0, TRIP, 9, 0).stood(0), 1);
        due("stood(0)", race("d5d5d5d5", 10, TRIP, 7, 0, TRIP, 8, 0).stood(0), 2);
        due("stood(0), HOME in 47", race("d5d5d5d5", 60, RAIN, 47, 1).stood(0), 0);
    }

    // ---- promise 11

    @Says("Metres (what = 0), LEG (1), RANK (2).")
    static void p11_eachAtTheFirstAndAtTheLastMoment() {
        RelayRace x = race("d5d5d5d5;d6d6d6d6", 10);
        int[][] want = {{0, 0, 5, 0, 1}, {0, 1, 6, 0, 0}, {47, 0, 40, 4, 1}, {47, 1, 42, 4, 0}};
        for (int[] w : want) {
            for (int what = 0; what < 3; what++) {
                due("at(" + w[0] + ", " + w[1] + ", " + what + ")", x.at(w[0], w[1], what), w[2 + what]);
            }
        }
    }

    @Says("BAD.")
    static void p11_BAD_eachNumberOutside() {
        Act act = (x, a) -> x.at(a[0], a[1], a[2]);
        eachOutside("at", Boundary::some, ints(0, 0, 0), ints(0, 47, 0, 2, 0, 2), act, BAD);
        eachOutside("at", Boundary::full, ints(47, 3, 2), ints(0, 47, 0, 3, 0, 2), act, BAD);
        eachEdgeTaken("at", Boundary::full, ints(0, 0, 0), ints(0, 47, 0, 3, 0, 2), act);
        badWithoutTeams("at", ints(0, 0, 0), 1, act, BAD);
    }

    // ---- promise 12

    @Says("HOME; NONE.")
    static void p12_NONE_notHomeByMoment47() {
        RelayRace x = race(LIKE, 60, TRIP, 47, 1);
        due("home(0)", x.home(0), 47);
        due("home(1)", x.home(1), NONE);
    }

    @Says("BAD.")
    static void p12_BAD_noSuchTeam() {
        Act act = (x, a) -> x.home(a[0]);
        eachOutside("home", Boundary::some, ints(0), ints(0, 2), act, BAD);
        eachOutside("home", Boundary::full, ints(0), ints(0, 3), act, BAD);
        eachEdgeTaken("home", Boundary::full, ints(0), ints(0, 3), act);
        badWithoutTeams("home", ints(0), 0, act, BAD);
    }

    // ---- promise 13

    @Says("LASTED; NONE.")
    static void p13_NONE_aLegNotDoneByMoment47() {
        RelayRace x = race(LIKE, 60, TRIP, 47, 1);
        due("lasted(0, 3)", x.lasted(0, 3), 12);
        due("lasted(1, 2)", x.lasted(1, 2), 12);
        due("lasted(1, 3)", x.lasted(1, 3), NONE);
    }

    @Says("BAD.")
    static void p13_BAD_eachNumberOutside() {
        Act act = (x, a) -> x.lasted(a[0], a[1]);
        eachOutside("lasted", Boundary::some, ints(0, 0), ints(0, 2, 0, 3), act, BAD);
        eachOutside("lasted", Boundary::full, ints(3, 3), ints(0, 3, 0, 3), act, BAD);
        eachEdgeTaken("lasted", Boundary::full, ints(0, 0), ints(0, 3, 0, 3), act);
        badWithoutTeams("lasted", ints(0, 0), 0, act, BAD);
    }

    // ---- promise 14

    @Says("WON: which TEAM (what = 0), when it is HOME (1); NONE.")
    static void p14_whichAndWhen() {
        wins(told("d3d3d3d3;d5d5d5d5;d7d7d7d7;d9d9d9d9"), 3, 13);
        wins(race("s9s9s9s9", 10), 0, 3);
        wins(race("d5d5d5d5", 60), 0, 47);
    }

    @Says("WON: which TEAM (what = 0), when it is HOME (1); NONE.")
    static void p14_NONE_noTeamsAndNoneHome() {
        wins(new RelayRace(), NONE, NONE);
        wins(told("d5d5d5d5;"), NONE, NONE);
        wins(told("d1d1d1d1"), NONE, NONE);
    }

    @Says("BAD.")
    static void p14_BAD_whatAheadOf_NONE() {
        Act act = (x, a) -> x.won(a[0]);
        eachOutside("won", Boundary::some, ints(0), ints(0, 1), act, BAD);
        eachOutside("won", Boundary::fresh, ints(0), ints(0, 1), act, BAD);
        eachOutside("won", () -> told("d1d1d1d1"), ints(0), ints(0, 1), act, BAD);
    }

    // ---- promise 15

    @Says("CHANGES.")
    static void p15_ofNoTeamToFourTeams() {
        due("changes() without TEAMS", new RelayRace().changes(), 0);
        due("changes() with a FAULT", told("d5d5d5d5;n6n6n6n6;").changes(), 0);
        due("changes() of one", told("s5n6d7s8").changes(), 0);
        due("changes() of two", told("d5d5d5d5;n6n6n6n6").changes(), 1);
        // TEAM 3 leads behind MOMENT 0, TEAM 2 from 1 on.
        due("changes() of four", race("d1d1d1d1;d1d1d1d1;d9d9d9d9;d8d8d8d8", 60, TRIP, 0, 2, DROP, 1, 3).changes(), 1);
    }

    // ---- promise 16

    @Says("LEADER: who (what = 0), behind how many MOMENTS (1); NONE.")
    static void p16_whoAndHowOften() {
        leads(told("d5d5d5d5"), 0, 48);
        leads(race(LIKE, 60, TRIP, 24, 0), 0, 24);
    }

    @Says("LEADER: who (what = 0), behind how many MOMENTS (1); NONE.")
    static void p16_NONE_noTeams() {
        leads(new RelayRace(), NONE, NONE);
    }

    @Says("BAD.")
    static void p16_BAD_whatAheadOf_NONE() {
        Act act = (x, a) -> x.leader(a[0]);
        eachOutside("leader", Boundary::some, ints(0), ints(0, 1), act, BAD);
        eachOutside("leader", Boundary::fresh, ints(0), ints(0, 1), act, BAD);
    }

    // ---- promise 17

    @Says("STOOD.")
    static void p17_ofEachTeamForItself() {
        RelayRace x = race(FOUR_LIKE, 60, TRIP, 0, 0, DROP, 0, 3, RAIN, 0, 1);
        int[] want = {1, 0, 0, 3};
        for (int t = 0; t < 4; t++) due("stood(" + t + ")", x.stood(t), want[t]);
    }

    @Says("BAD.")
    static void p17_BAD_noSuchTeam() {
        Act act = (x, a) -> x.stood(a[0]);
        eachOutside("stood", Boundary::some, ints(0), ints(0, 2), act, BAD);
        eachOutside("stood", Boundary::full, ints(0), ints(0, 3), act, BAD);
        eachEdgeTaken("stood", Boundary::full, ints(0), ints(0, 3), act);
        badWithoutTeams("stood", ints(0), 0, act, BAD);
    }
}
