/** Boundary cases of section 4 and of promises 22 to 28: SEEN, NEVER, PACES, SORT, ASK, CHANCE, YEARS. */
public final class SeenBoundaryTest extends Boundary {
    private static final String LIKE = "d5d5d5d5;d5d5d5d5";
    private static final String THREE_LIKE = "d5d5d5d5;d5d5d5d5;d5d5d5d5";
    private static final int ALL_PACES = 1022;

    public static void main(String[] args) throws IllegalAccessException {
        runAll(SeenBoundaryTest.class);
    }

    /** A race and three numbers for each that was SEEN. */
    private static RelayRace seen(RelayRace x, int... triples) {
        for (int i = 0; i + 2 < triples.length; i += 3) x.seen(triples[i], triples[i + 1], triples[i + 2]);
        return x;
    }

    private static void was(RelayRace x, int team, int leg, int paces, int sorts) {
        due("was(" + team + ", " + leg + ", 0)", x.was(team, leg, 0), paces);
        due("was(" + team + ", " + leg + ", 1)", x.was(team, leg, 1), sorts);
    }

    // ---- SEEN

    @Says("SEEN, 8 at most:")
    static void s4_nothingSeenRulesOutNothing() {
        RelayRace x = race(LIKE, 30, TRIP, 0, 0, TRIP, 1, 1);
        due("count(7)", x.count(7), 0);
        was(x, 0, 0, ALL_PACES, 7);
        due("never()", x.never(), 3);
    }

    @Says("SEEN, 8 at most:")
    static void s4_theEighthSeenCountsAndANinthDoesNot() {
        RelayRace x = told(LIKE);
        for (int n = 1; n <= 7; n++) due("seen, the " + n + "th", x.seen(0, 0, 0), n);
        due("was(0, 0, 0)", x.was(0, 0, 0), ALL_PACES & -32);
        due("seen, the eighth", x.seen(0, 0, 1), 8);
        due("was(0, 0, 0), the eighth rules out the rest", x.was(0, 0, 0), 0);
        x.forget();
        for (int n = 1; n <= 8; n++) x.seen(0, 0, 0);
        due("seen, a ninth", x.seen(0, 0, 1), FULL);
        due("was(0, 0, 0), without the ninth", x.was(0, 0, 0), ALL_PACES & -32);
    }

    @Says("behind a MOMENT a TEAM (0 to 3; of one that there is not nothing ever comes out so)")
    static void s4_aTeamThatThereIsNot() {
        for (int teams = 1; teams <= 4; teams++) {
            for (int team = 0; team < 4; team++) {
                RelayRace x = race(FOUR.substring(0, 9 * teams - 1), 30, TRIP, 47, 0);
                int rank = team < teams ? x.at(47, team, 2) : 0;
                due("seen(47, " + team + ", " + rank + ")", x.seen(47, team, rank), 1);
                due("bit of PACE 7 in was(0, 0, 0) of " + teams, x.was(0, 0, 0) >> 7 & 1, team < teams ? 1 : 0);
                due("bit of SORT 0 in was(0, 0, 1) of " + teams, x.was(0, 0, 1) & 1, team < teams ? 1 : 0);
                due("never() of " + teams, x.never(), team < teams ? 1 : 0);
            }
        }
    }

    @Says("behind a MOMENT a TEAM (0 to 3; of one that there is not nothing ever comes out so)")
    static void s4_withoutTeamsNothingSeenComesOut() {
        RelayRace x = race("", 30, RAIN, 0, 0, RAIN, 1, 0);
        due("never(), nothing SEEN", x.never(), 3);
        x.seen(0, 0, 0);
        due("never()", x.never(), 0);
        x.forget();
        due("never(), forgotten", x.never(), 3);
    }

    @Says("had a RANK (0 to 3).")
    static void s4_ranks0To3() {
        RelayRace x = told("d3d3d3d3;d5d5d5d5;d7d7d7d7;d9d9d9d9");
        due("was(0, 0, 0), RANK 3 behind MOMENT 0", seen(x, 0, 0, 3).was(0, 0, 0), 0b11110);
        x = told("d3d3d3d3;d5d5d5d5;d7d7d7d7;d9d9d9d9");
        due("was(0, 0, 0), RANK 0 behind MOMENT 0", seen(x, 0, 0, 0).was(0, 0, 0), 0b1000000000);
        x = told(THREE_LIKE);
        due("was(0, 0, 0), a RANK that there is not", seen(x, 0, 0, 3).was(0, 0, 0), 0);
    }

    @Says("behind a MOMENT a TEAM (0 to 3; of one that there is not nothing ever comes out so)")
    static void s4_seenBehindTheFirstAndTheLastMoment() {
        due("never(), behind MOMENT 0", seen(race(LIKE, 60, TRIP, 0, 0, TRIP, 1, 0), 0, 0, 0).never(), 1);
        // TEAM 0 comes HOME in 47 unless it trips then.
        due("never(), behind MOMENT 47", seen(race(LIKE, 60, TRIP, 47, 0), 47, 0, 0).never(), 1);
        due("never(), behind MOMENT 46", seen(race(LIKE, 60, TRIP, 47, 0), 46, 0, 1).never(), 0);
    }

    // ---- NEVER

    @Says("NEVER: EVENTS each of which, had it alone not been, makes all that was SEEN come out so, as bits.")
    static void s4_neverFromTheFirstBitToTheEighth() {
        due("never() of no EVENTS", seen(told(LIKE), 0, 0, 0).never(), 0);
        for (int which = 0; which < 8; which++) {
            RelayRace x = told(LIKE);
            for (int e = 0; e < 8; e++) x.event(e == which ? TRIP : RAIN, e, 0);
            due("never(), nothing SEEN", x.never(), 255);
            due("never(), EVENT " + which, seen(x, 20, 0, 0).never(), 1 << which);
        }
    }

    @Says("NEVER: EVENTS each of which, had it alone not been, makes all that was SEEN come out so, as bits.")
    static void s4_neverOneAloneNotTwoTogether() {
        due("never(), two are to blame", seen(race(LIKE, 30, TRIP, 0, 0, TRIP, 1, 0), 10, 0, 0).never(), 0);
        due("never(), either is", seen(race(LIKE, 30, TRIP, 0, 0, TRIP, 1, 0, TRIP, 2, 1), 10, 0, 0).never(), 3);
        // Two like EVENTS: without one of them the other is still there.
        due("never(), like ones", seen(race(LIKE, 30, TRIP, 0, 0, TRIP, 0, 0), 10, 0, 0).never(), 0);
    }

    @Says("NEVER: EVENTS each of which, had it alone not been, makes all that was SEEN come out so, as bits.")
    static void s4_neverByAllThatWasSeen() {
        RelayRace x = seen(race(LIKE, 30, TRIP, 0, 0, TRIP, 5, 0), 2, 0, 0);
        due("never()", x.never(), 1);
        due("never()", seen(x, 6, 0, 0).never(), 0);
    }

    // ---- PACES and SORT

    @Says("PACES of a RUNNER: 1 to 9, in place of its own, likewise, as bits (bit 1 on).")
    static void s4_pacesFromBit1ToBit9() {
        due("was, nothing SEEN", told("d5d5d5d5").was(0, 3, 0), ALL_PACES);
        // Against a PACE of p: TEAM 0 falls back by less than p, TEAM 1 comes ahead by more than p.
        for (int p = 1; p <= 9; p++) {
            String other = "d" + p + "d5d5d5";
            int less = (1 << p) - 2;
            int more = ALL_PACES & ~((2 << p) - 1);
            due("was, less than " + p, seen(told("d5d5d5d5;" + other), 0, 0, 1).was(0, 0, 0), less);
            due("was, at least " + p, seen(told("d5d5d5d5;" + other), 0, 0, 0).was(0, 0, 0), ALL_PACES & ~less);
            due("was, more than " + p, seen(told(other + ";d5d5d5d5"), 0, 1, 0).was(1, 0, 0), more);
            due("was, at most " + p, seen(told(other + ";d5d5d5d5"), 0, 1, 1).was(1, 0, 0), ALL_PACES & ~more);
        }
    }

    @Says("PACES of a RUNNER: 1 to 9, in place of its own, likewise, as bits (bit 1 on).")
    static void s4_pacesOfTheLastRunnerOfTheLastTeam() {
        // All hand over to LEG 3 behind MOMENT 5: TEAM 3 has RANK 0 behind 6 by more than 5 alone.
        RelayRace x = race("d5d5d5d5;d5d5d5d5;d5d5d5d5;d5d5d5d5", 10);
        due("was(3, 3, 0)", seen(x, 6, 3, 0).was(3, 3, 0), 0b1111000000);
        due("was(3, 2, 0)", x.was(3, 2, 0), 0b1111000000);
        due("was(2, 3, 0)", x.was(2, 3, 0), 0);
    }

    @Says("SORT of a RUNNER: 0 s, 1 d, 2 n, in place of its own, likewise, as bits.")
    static void s4_sortsFromBit0ToBit2() {
        due("was, nothing SEEN", told("d5d5d5d5").was(0, 3, 1), 7);
        due("was, s alone", seen(told(LIKE), 0, 1, 0).was(1, 0, 1), 1);
        due("was, n alone", seen(told(LIKE), 0, 0, 1).was(0, 0, 1), 4);
        // 6, 5 or 4 metres between 6 and 5.
        due("was, d alone", seen(told("d5d5d5d5;d6d6d6d6;d5d5d5d5"), 0, 0, 1).was(0, 0, 1), 2);
        due("was, none", seen(told("d5d5d5d5;d9d9d9d9"), 0, 0, 0).was(0, 0, 1), 0);
        // Whatever sort it is told to be.
        due("was, s alone", seen(told("d5d5d5d5;s5d5d5d5"), 0, 1, 0).was(1, 0, 1), 1);
        due("was, s alone", seen(told("d5d5d5d5;n5d5d5d5"), 0, 1, 0).was(1, 0, 1), 1);
    }

    // ---- ASK

    @Says("ASK of a RUNNER: the MOMENT behind which the greatest number of those of PACES by which all RANKS are alike is least,")
    static void s4_askFromMoment0To47() {
        due("ask(0, 0)", told(LIKE).ask(0, 0), 0);
        // Three LEGS of 15 and two TRIPS each: LEG 3 begins in MOMENT 47.
        RelayRace x = race("d1d1d1d5;d1d1d1d5", 15, TRIP, 0, 0, TRIP, 1, 0, TRIP, 0, 1, TRIP, 1, 1);
        due("lasted(0, 0)", x.lasted(0, 0), 17);
        due("at(46, 0, 1)", x.at(46, 0, 1), 3);
        due("ask(0, 3)", x.ask(0, 3), 47);
        due("ask(1, 3)", x.ask(1, 3), 47);
    }

    @Says("ASK of a RUNNER: the MOMENT behind which the greatest number of those of PACES by which all RANKS are alike is least,")
    static void s4_askOfPacesThatWereNotRuledOut() {
        // LEG 1 begins in 4. Nothing SEEN: 1 to 4 fall back behind 4, 5 to 9 do not.
        RelayRace x = told("d9d5d5d5;d9d5d5d5");
        due("ask(0, 1)", x.ask(0, 1), 4);
        due("ask(0, 1), four PACES alike for ever", seen(x, 4, 0, 1).ask(0, 1), 0);
    }

    @Says("ASK of a RUNNER: the MOMENT behind which the greatest number of those of PACES by which all RANKS are alike is least,")
    static void s4_askOfPacesThatAreNotThePaceTold() {
        // SEEN behind TEAM 1, so 1 to 4. It trips in 1: behind it 1 and 2 are 5 metres short, 3 and 4 are not.
        RelayRace x = seen(race(LIKE, 60, TRIP, 1, 1), 0, 0, 1);
        due("was(0, 0, 0)", x.was(0, 0, 0), 0b11110);
        due("ask(0, 0)", x.ask(0, 0), 1);
    }

    @Says("of like ones the least.")
    static void s4_askWithPace1AndWithPace9AndWithNoOther() {
        // Behind MOMENT 0 PACES 1 to 5 are behind TEAM 1 and 6 to 9 are not; behind 3 it is 1 to 4 and 5 to 9.
        due("ask(0, 0), five at most behind 0 as behind 3", race("d5d5d5d5;d6d6d6d6", 60, TRIP, 1, 1).ask(0, 0), 0);
        // Behind MOMENT 0 1 to 4 and 5 to 9; behind 5 1 to 5 and 6 to 9.
        due("ask(0, 0), five at most behind 0 as behind 5", race("d5d5d5d5;d5d5d5d5", 60, TRIP, 1, 0).ask(0, 0), 0);
    }

    @Says("of like ones the least.")
    static void s4_askOfLikeMoments() {
        due("ask(0, 0) of one TEAM", told("d5d5d5d5").ask(0, 0), 0);
        due("ask(0, 3), LEG 3 is never begun", told("d1d1d1d1;d5d5d5d5").ask(0, 3), 0);
        due("ask(0, 0), no PACE is left", seen(told(LIKE), 0, 0, 0, 0, 0, 1).ask(0, 0), 0);
        due("ask(0, 0), a TEAM that there is not", seen(told(LIKE), 0, 3, 0).ask(0, 0), 0);
    }

    // ---- CHANCE

    @Says("CHANCE: each of EVENTS is by c sixteenths (0 to 16), by itself:")
    static void s4_chanceBy0To16Sixteenths() {
        RelayRace x = race(LIKE, 30, TRIP, 0, 0);
        int[] above = {0, 1, 1, 3, 1, 5, 3, 7, 1, 9, 5, 11, 3, 13, 7, 15, 1};
        int[] below = {1, 16, 8, 16, 4, 16, 8, 16, 2, 16, 8, 16, 4, 16, 8, 16, 1};
        for (int c = 0; c <= 16; c++) {
            chances(x, c, 1, above[c], below[c]);
            chances(x, c, 0, c == 16 ? 0 : c == 0 ? 1 : below[c] - above[c], below[c]);
        }
    }

    @Says("CHANCE: each of EVENTS is by c sixteenths (0 to 16), by itself:")
    static void s4_chanceOfNoEventAndOf8Events() {
        chances(told(LIKE), 8, 0, 1, 1);
        chances(told(LIKE), 8, 1, 0, 1);
        RelayRace x = told(LIKE);
        for (int m = 0; m < 8; m++) x.event(TRIP, m, 0);
        // TEAM 0 has WON just where it never trips.
        chances(x, 15, 0, 1, 4294967296L);
        chances(x, 15, 1, 4294967295L, 4294967296L);
        chances(x, 1, 0, 2562890625L, 4294967296L);
        chances(x, 1, 1, 1732076671L, 4294967296L);
        chances(x, 8, 0, 1, 256);
        chances(x, 0, 0, 1, 1);
        chances(x, 16, 1, 1, 1);
    }

    @Says("the chance that a TEAM has WON: a FRACTION.")
    static void s4_chanceByWhatIsToldNow() {
        RelayRace x = race(LIKE, 30, TRIP, 10, 0);
        chances(x, 8, 0, 1, 2);
        spares(x, 1, 0, NONE);
        x.event(TRIP, 0, 1);
        chances(x, 8, 0, 3, 4);
        spares(x, 0, NONE, NONE);
        x.back();
        chances(x, 8, 0, 1, 2);
        spares(x, 1, 0, NONE);
        // By LEGS of 10 it is HOME ahead of its TRIP.
        x.along(10);
        chances(x, 8, 0, 1, 1);
        spares(x, 0, NONE, NONE);
        x.along(30);
        fill(x, 0, 0, TRIP, 3, 0);
        x.read(0);
        chances(x, 8, 0, 1, 4);
        spares(x, 2, 0, 1);
        x.undo();
        x.type('6');
        chances(x, 8, 0, 0, 1);
        spares(x, NONE, NONE, NONE);
        x.wipe();
        tell(x, "d5d5d5d5");
        chances(x, 8, 0, 1, 1);
        spares(x, 0, NONE, NONE);
    }

    @Says("the chance that a TEAM has WON: a FRACTION.")
    static void s4_chanceWhereNoneMayBeHome() {
        chances(told("d1d1d1d1"), 8, 0, 0, 1);
        // HOME in 47 unless it trips.
        chances(race("d5d5d5d5", 60, TRIP, 20, 0), 4, 0, 3, 4);
        chances(race("d5d5d5d5", 60, TRIP, 20, 0), 16, 0, 0, 1);
    }

    @Says("the chance that a TEAM has WON: a FRACTION.")
    static void s4_chancesOfAllTeamsAreOneTogether() {
        RelayRace x = full();
        for (int c = 0; c <= 16; c++) {
            long sum = 0;
            for (int t = 0; t < 4; t++) sum += x.chance(c, t, 0) * (4294967296L / x.chance(c, t, 1));
            due("chances by " + c, sum, 4294967296L);
        }
    }

    // ---- YEARS

    @Says("YEARS by a SEED: n EVENTS (0 to 8), in place of those told:")
    static void s4_yearsOfNoEventAndOf8Events() {
        RelayRace x = race(LIKE, 30, DROP, 0, 0);
        wins(x, 1, 23);
        due("years(1, 0, 0)", x.years(1, 0, 0), 0);
        due("years(1, 0, 1)", x.years(1, 0, 1), 23);
        due("count(3)", x.count(3), 1);
        wins(x, 1, 23);
        // The eighth that SEED 4 draws is a DROP of TEAM 0 in 19.
        int[][] known = {{7, 0, 28}, {8, 1, 31}};
        for (int[] k : known) {
            due("years(4, " + k[0] + ", 0)", x.years(4, k[0], 0), k[1]);
            due("years(4, " + k[0] + ", 1)", x.years(4, k[0], 1), k[2]);
            likeTold(x, 4, k[0]);
        }
    }

    private static void likeTold(RelayRace x, int seed, int n) {
        RelayRace y = told(LIKE);
        int s = seed;
        for (int k = 0; k < n; k++) {
            s = 1103515245 * s + 12345;
            int kind = (s >>> 16) % 3;
            s = 1103515245 * s + 12345;
            int moment = (s >>> 16) % 48;
            s = 1103515245 * s + 12345;
            y.event(kind, moment, (s >>> 16) % 4);
        }
        due("years(" + seed + ", " + n + ", 0)", x.years(seed, n, 0), y.won(0));
        due("years(" + seed + ", " + n + ", 1)", x.years(seed, n, 1), y.won(1));
    }

    @Says("of each a LOT of 3 (its kind), a LOT of 48 (its MOMENT), a LOT of 4 (its number):")
    static void s4_yearsByKnownLots() {
        // SEED 14 draws a DROP of TEAM 0 in 0; 28 RAIN from 4; 5 a TRIP of TEAM 0 in 41, then its DROP in 1.
        RelayRace x = told(LIKE);
        int[][] known = {{14, 1, 1, 23}, {28, 1, 0, 28}, {5, 1, 0, 23}, {5, 2, 1, 23}};
        for (int[] k : known) {
            due("years(" + k[0] + ", " + k[1] + ", 0)", x.years(k[0], k[1], 0), k[2]);
            due("years(" + k[0] + ", " + k[1] + ", 1)", x.years(k[0], k[1], 1), k[3]);
        }
        for (int seed : new int[] {0, 1, -1, LEAST, MOST}) {
            for (int n = 0; n <= 8; n++) likeTold(x, seed, n);
        }
    }

    @Says("which TEAM has WON; when it is HOME; NONE.")
    static void s4_yearsWhenNoneIsHome() {
        for (int w = 0; w < 2; w++) {
            due("years without TEAMS", new RelayRace().years(1, 8, w), NONE);
            due("years, never HOME", told("d1d1d1d1").years(1, 0, w), NONE);
        }
        // SEED 14 draws a DROP of TEAM 0, which would be HOME in 47 at best.
        due("years(14, 0, 1)", race("d5d5d5d5", 60).years(14, 0, 1), 47);
        due("years(14, 1, 0)", race("d5d5d5d5", 60).years(14, 1, 0), NONE);
        due("years(14, 1, 1)", race("d5d5d5d5", 60).years(14, 1, 1), NONE);
    }

    // ---- promise 22

    @Says("SEEN more: how many.")
    static void p22_theFirstToTheEighth() {
        RelayRace x = new RelayRace();
        for (int n = 1; n <= 8; n++) due("seen, the " + n + "th", x.seen(n, n % 4, 3 - n % 4), n);
        due("count(7)", x.count(7), 8);
        Act act = (y, a) -> y.seen(a[0], a[1], a[2]);
        eachEdgeTaken("seen", Boundary::fresh, ints(5, 1, 1), ints(0, 47, 0, 3, 0, 3), act);
    }

    @Says("BAD; FULL.")
    static void p22_BAD_eachNumberOutside() {
        Act act = (x, a) -> x.seen(a[0], a[1], a[2]);
        eachOutside("seen", Boundary::some, ints(0, 0, 0), ints(0, 47, 0, 3, 0, 3), act, BAD);
        eachOutside("seen", Boundary::fresh, ints(47, 3, 3), ints(0, 47, 0, 3, 0, 3), act, BAD);
    }

    @Says("BAD; FULL.")
    static void p22_FULL_aNinth() {
        refused("seen, a ninth", Boundary::full, (x, a) -> x.seen(0, 0, 0), FULL, AS_BEFORE);
        refused("seen, a ninth", Boundary::full, (x, a) -> x.seen(47, 3, 3), FULL, AS_BEFORE);
    }

    @Says("BAD; FULL.")
    static void p22_BAD_aheadOf_FULL() {
        Act act = (x, a) -> x.seen(a[0], a[1], a[2]);
        eachOutside("seen, a ninth,", Boundary::full, ints(0, 0, 0), ints(0, 47, 0, 3, 0, 3), act, BAD);
    }

    // ---- promise 23

    @Says("All SEEN are forgotten: how many.")
    static void p23_noneAnd8() {
        due("forget() of none", new RelayRace().forget(), 0);
        RelayRace x = told(LIKE);
        for (int n = 0; n < 8; n++) x.seen(0, 0, 1);
        due("was(0, 0, 0)", x.was(0, 0, 0), 0b11110);
        due("forget() of 8", x.forget(), 8);
        due("count(7)", x.count(7), 0);
        due("was(0, 0, 0), forgotten", x.was(0, 0, 0), ALL_PACES);
        due("forget() again", x.forget(), 0);
        due("seen, the first again", x.seen(0, 0, 0), 1);
    }

    @Says("All SEEN are forgotten: how many.")
    static void p23_nothingElseIsForgotten() {
        RelayRace x = full();
        x.forget();
        int[] counts = {4, 35, 20, 8};
        for (int w = 0; w < 4; w++) due("count(" + w + ")", x.count(w), counts[w]);
        due("count(8)", x.count(8), 5);
        due("lose(3)", x.lose(3), 60);
    }

    // ---- promise 24

    @Says("NEVER, as bits.")
    static void p24_fromNoBitTo8Bits() {
        due("never() of no EVENTS", new RelayRace().never(), 0);
        RelayRace x = told(LIKE);
        for (int n = 1; n <= 8; n++) {
            x.event(TRIP, n, 0);
            due("never() of " + n, x.never(), (1 << n) - 1);
        }
        x.seen(47, 0, 0);
        due("never(), seven TRIPS are left", x.never(), 0);
        due("count(3), as told", x.count(3), 8);
        due("stood(0), as told", x.stood(0), 8);
    }

    // ---- promise 25

    @Says("PACES (what = 0), SORT (1), as bits.")
    static void p25_allBitsAndNone() {
        RelayRace x = told(FOUR);
        for (int leg = 0; leg < 4; leg++) was(x, 3, leg, ALL_PACES, 7);
        x.seen(0, 0, 0);
        x.seen(0, 0, 1);
        for (int leg = 0; leg < 4; leg++) was(x, 3, leg, 0, 0);
    }

    @Says("BAD.")
    static void p25_BAD_eachNumberOutside() {
        Act act = (x, a) -> x.was(a[0], a[1], a[2]);
        eachOutside("was", Boundary::some, ints(0, 0, 0), ints(0, 2, 0, 3, 0, 1), act, BAD);
        eachOutside("was", Boundary::full, ints(3, 3, 1), ints(0, 3, 0, 3, 0, 1), act, BAD);
        eachEdgeTaken("was", Boundary::full, ints(0, 0, 0), ints(0, 3, 0, 3, 0, 1), act);
        badWithoutTeams("was", ints(0, 0, 0), 0, act, BAD);
    }

    // ---- promise 26

    @Says("ASK.")
    static void p26_moment0AndMoment47() {
        due("ask(0, 0)", told(LIKE).ask(0, 0), 0);
        RelayRace x = race("d1d1d1d5;d1d1d1d5", 15, TRIP, 0, 0, TRIP, 1, 0, TRIP, 0, 1, TRIP, 1, 1);
        due("ask(1, 3)", x.ask(1, 3), 47);
        due("runner(1, 3, 1), as told", x.runner(1, 3, 1), 5);
    }

    @Says("BAD.")
    static void p26_BAD_eachNumberOutside() {
        Act act = (x, a) -> x.ask(a[0], a[1]);
        eachOutside("ask", Boundary::some, ints(0, 0), ints(0, 2, 0, 3), act, BAD);
        eachOutside("ask", Boundary::full, ints(3, 3), ints(0, 3, 0, 3), act, BAD);
        eachEdgeTaken("ask", Boundary::full, ints(0, 0), ints(0, 3, 0, 3), act);
        badWithoutTeams("ask", ints(0, 0), 0, act, BAD);
    }

    // ---- promise 27

    @Says("CHANCE: above, below.")
    static void p27_aboveAndBelow() {
        RelayRace x = race(LIKE, 30, TRIP, 0, 0);
        chances(x, 0, 1, 0, 1);
        chances(x, 5, 0, 11, 16);
        chances(x, 5, 1, 5, 16);
        chances(x, 16, 1, 1, 1);
        due("count(3), as told", x.count(3), 1);
    }

    @Says("BAD. (As the least long.)")
    static void p27_BAD_eachNumberOutside() {
        Act act = (x, a) -> x.chance(a[0], a[1], a[2]);
        eachOutside("chance", Boundary::some, ints(0, 0, 0), ints(0, 16, 0, 2, 0, 1), act, LONG_BAD);
        eachOutside("chance", Boundary::full, ints(16, 3, 1), ints(0, 16, 0, 3, 0, 1), act, LONG_BAD);
        eachEdgeTaken("chance", Boundary::full, ints(0, 0, 0), ints(0, 16, 0, 3, 0, 1), act);
        badWithoutTeams("chance", ints(8, 0, 0), 1, act, LONG_BAD);
        due("BAD as a long", Long.MIN_VALUE - BAD, LONG_BAD);
    }

    // ---- promise 28

    @Says("YEARS: which TEAM (what = 0), when (1); NONE.")
    static void p28_whichAndWhenBySeedsOfAnySize() {
        RelayRace x = told(LIKE);
        for (int seed : new int[] {LEAST, LEAST + 1, -1, 0, 1, MOST - 1, MOST}) {
            likeTold(x, seed, 0);
            likeTold(x, seed, 8);
        }
        due("years(14, 1, 0)", x.years(14, 1, 0), 1);
        due("years(28, 1, 1)", x.years(28, 1, 1), 28);
    }

    @Says("YEARS: which TEAM (what = 0), when (1); NONE.")
    static void p28_NONE_noneIsHome() {
        due("years(7, 6, 0)", new RelayRace().years(7, 6, 0), NONE);
        due("years(7, 6, 1)", new RelayRace().years(7, 6, 1), NONE);
    }

    @Says("BAD.")
    static void p28_BAD_nAndWhatOutsideButNoSeed() {
        Act act = (x, a) -> x.years(7, a[0], a[1]);
        eachOutside("years, SEED 7,", Boundary::some, ints(0, 0), ints(0, 8, 0, 1), act, BAD);
        eachOutside("years, SEED 7,", Boundary::full, ints(8, 1), ints(0, 8, 0, 1), act, BAD);
        eachOutside("years, SEED 7,", Boundary::fresh, ints(8, 1), ints(0, 8, 0, 1), act, BAD);
        eachEdgeTaken("years", Boundary::full, ints(0, 0, 0), ints(LEAST, MOST, 0, 8, 0, 1),
                (x, a) -> x.years(a[0], a[1], a[2]));
    }
}
