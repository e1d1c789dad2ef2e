/** Boundary cases of section 1: TEAMS, FAULT, LONG, EVENTS, STRIDES, FRACTIONS, LOTS, SHEETS, FINDINGS. */
public final class TermsBoundaryTest extends Boundary {
    public static void main(String[] args) throws IllegalAccessException {
        runAll(TermsBoundaryTest.class);
    }

    // ---- the text

    @Says("TEAMS are a text of up to 35 bytes,")
    static void s1_aTextOfNoBytes() {
        RelayRace x = new RelayRace();
        due("count(1)", x.count(1), 0);
        due("count(0)", x.count(0), 0);
        due("wipe()", x.wipe(), 0);
    }

    @Says("TEAMS are a text of up to 35 bytes,")
    static void s1_aTextOf35BytesAndNoMore() {
        RelayRace x = new RelayRace();
        for (int n = 1; n <= 35; n++) due("type, " + n + " bytes", x.type('d'), n);
        due("type, a 36th byte", x.type('d'), FULL);
        due("count(1)", x.count(1), 35);
    }

    @Says("4 at most (0 on),")
    static void s1_noTeamToFourTeams() {
        String[] texts = {"", "d1d2d3d4", "d1d2d3d4;d2d3d4d5", "d1d2d3d4;d2d3d4d5;d3d4d5d6",
            "d1d2d3d4;d2d3d4d5;d3d4d5d6;d4d5d6d7"};
        for (int n = 0; n <= 4; n++) {
            RelayRace x = told(texts[n]);
            due("count(0) of " + texts[n], x.count(0), n);
            for (int t = -1; t <= 4; t++) {
                int want = t >= 0 && t < n ? t + 1 : BAD;
                due("runner(" + t + ", 0, 1) of " + n + " TEAMS", x.runner(t, 0, 1), want);
            }
        }
    }

    @Says("with ; between them:")
    static void s1_semicolonsBetweenTeamsAlone() {
        faults(";", 0, "d1d2d3d4;", 9, ";d1d2d3d4", 0, "d1d2d3d4;;d1d2d3d4", 9, "d1d2d3d4d1", 8, "d1;", 2);
        for (int b = 0; b < 256; b++) {
            RelayRace x = told("d1d2d3d4");
            x.type(b);
            due("fault() with byte " + b + " behind a TEAM", x.fault(), b == ';' ? 9 : 8);
        }
    }

    @Says("of each its four RUNNERS,")
    static void s1_fourRunnersNotThreeNotFive() {
        faults("d1d2d3", 6, "d1d2d3;", 6, "d1d2d3d4", NONE, "d1d2d3d4d5", 8, "d1d2d3d4;d1d2d3", 15);
    }

    @Says("LEG by LEG (0 to 3):")
    static void s1_legs0To3() {
        RelayRace x = told("d6d7d8d9");
        int[] want = {BAD, 6, 7, 8, 9, BAD};
        for (int leg = -1; leg <= 4; leg++) due("runner(0, " + leg + ", 1)", x.runner(0, leg, 1), want[leg + 1]);
    }

    @Says("s (a sprinter), d (dogged) or n (nervous),")
    static void s1_noSortButThree() {
        for (int b = 0; b < 256; b++) {
            RelayRace x = new RelayRace();
            x.type(b);
            due("fault() of byte " + b, x.fault(), b == 's' || b == 'd' || b == 'n' ? 1 : 0);
        }
        RelayRace x = told("s1d1n1s1");
        int[] want = {0, 1, 2, 0};
        for (int leg = 0; leg < 4; leg++) due("runner(0, " + leg + ", 0)", x.runner(0, leg, 0), want[leg]);
    }

    @Says("and a figure 1 to 9, the PACE.")
    static void s1_pacesFrom1To9() {
        for (int b = 0; b < 256; b++) {
            RelayRace x = told("d");
            x.type(b);
            due("fault() of d and byte " + b, x.fault(), b >= 49 && b <= 57 ? 2 : 1);
        }
        RelayRace x = told("d1d9d2d8");
        int[] want = {1, 9, 2, 8};
        for (int leg = 0; leg < 4; leg++) due("runner(0, " + leg + ", 1)", x.runner(0, leg, 1), want[leg]);
    }

    @Says("An object is used for at most 512 calls after it has been made; what later calls answer is free.")
    static void s1_the512thCallAnswersStill() {
        RelayRace x = new RelayRace();
        tell(x, FOUR);
        for (int calls = 35; calls < 511; calls += 4) {
            x.event(calls % 3, calls % 48, calls % 4);
            x.back();
            x.digest();
            x.forget();
        }
        due("digest(), the 512th call", x.digest(), told(FOUR).digest());
    }

    // ---- FAULT

    private static void faults(Object... textAndFault) {
        for (int i = 0; i + 1 < textAndFault.length; i += 2) {
            RelayRace x = told((String) textAndFault[i]);
            due("fault() of " + textAndFault[i], x.fault(), (Integer) textAndFault[i + 1]);
        }
    }

    @Says("The FAULT of the text is the place of the first byte with which it cannot go on")
    static void s1_faultIsAtTheFirstOfSeveral() {
        faults("x", 0, "xx", 0, "dx", 1, "dxx", 1, "d1x", 2, "d1d2d3dxd", 7, "d1d2d3d4;x", 9, "d1d2d3d4;d0;", 10);
        faults("d1d2d3d4;d1d2d3d4;d1d2d3d4;d1d2d3d0", 34, "x1d2d3d4;d1d2d3d4;d1d2d3d4;d1d2d3d0", 0);
    }

    @Says("(an empty one is well;")
    static void s1_anEmptyTextIsWell() {
        due("fault()", new RelayRace().fault(), NONE);
        RelayRace x = told("x");
        x.undo();
        due("fault(), empty again", x.fault(), NONE);
        tell(x, "xx");
        x.wipe();
        due("fault(), wiped", x.fault(), NONE);
    }

    @Says("of one that is not ended, its end),")
    static void s1_aTextThatIsNotEndedHasItsFaultAtItsEnd() {
        for (int n = 1; n <= 35; n++) {
            boolean ended = n == 8 || n == 17 || n == 26 || n == 35;
            due("fault() of " + n + " bytes", told(FOUR.substring(0, n)).fault(), ended ? NONE : n);
        }
    }

    @Says("here also of the first byte of a fifth TEAM.")
    static void s1_aFifthTeamCannotBeBegun() {
        RelayRace x = told(FOUR);
        due("type(';') behind four TEAMS", x.type(';'), FULL);
        due("type('d') behind four TEAMS", x.type('d'), FULL);
        due("fault()", x.fault(), NONE);
        due("count(0)", x.count(0), 4);
    }

    @Says("With a FAULT it is as if it was empty.")
    static void s1_withAFaultThereAreNoTeams() {
        for (String faulty : new String[] {THREE + ";", THREE + "x", "x" + THREE, "d5d5d5d", "d5d5d5d0"}) {
            RelayRace x = race(faulty, 30, TRIP, 0, 0, RAIN, 3, 1);
            RelayRace empty = race("", 30, TRIP, 0, 0, RAIN, 3, 1);
            for (int w : new int[] {0, 4, 5, 6}) due(faulty + ": count(" + w + ")", x.count(w), 0);
            for (int w = 0; w < 2; w++) {
                due(faulty + ": won", x.won(w), empty.won(w));
                due(faulty + ": leader", x.leader(w), empty.leader(w));
                due(faulty + ": years", x.years(7, 6, w), empty.years(7, 6, w));
                due(faulty + ": runner", x.runner(0, 0, w), BAD);
            }
            due(faulty + ": changes", x.changes(), 0);
            due(faulty + ": spare", x.spare(NONE), NONE);
            due(faulty + ": never", x.never(), 3);
            due(faulty + ": at", x.at(0, 0, 0), BAD);
        }
    }

    @Says("With a FAULT it is as if it was empty.")
    static void s1_theTeamsAreBackWhenTheFaultIsUndone() {
        RelayRace x = race(THREE, 30, TRIP, 0, 0);
        long before = x.digest();
        x.type(';');
        due("count(0) with a FAULT", x.count(0), 0);
        x.undo();
        due("digest() as before", x.digest(), before);
    }

    // ---- MOMENTS, LONG, EVENTS

    @Says("MOMENTS are 0 to 47.")
    static void s1_moments0To47() {
        RelayRace x = race("d1d1d1d1", 60);
        metres(x, 0, 0, 1, 2);
        metres(x, 0, 46, 47, 48);
        for (int m : outside(0, 47)) {
            due("at(" + m + ", 0, 0)", x.at(m, 0, 0), BAD);
            due("event(1, " + m + ", 0)", x.event(TRIP, m, 0), BAD);
            due("seen(" + m + ", 0, 0)", x.seen(m, 0, 0), BAD);
        }
        due("seen(0, 0, 0)", x.seen(0, 0, 0), 1);
        due("seen(47, 0, 0)", x.seen(47, 0, 0), 2);
        due("event(1, 0, 0)", x.event(TRIP, 0, 0), 1);
        due("event(1, 47, 0)", x.event(TRIP, 47, 0), 2);
        metres(x, 0, 0, 0, 1);
        metres(x, 0, 46, 46, 46);
    }

    @Says("LEGS are LONG (10 to 60 metres; 30 at first), each alike.")
    static void s1_longIs30AtFirst() {
        lasts(told("d5d5d5d5"), 0, 6, 6, 6, 6);
        due("count(2)", new RelayRace().count(2), 30);
    }

    @Says("LEGS are LONG (10 to 60 metres; 30 at first), each alike.")
    static void s1_longFrom10To60EachLegAlike() {
        lasts(race("d5d5d5d5", 10), 0, 2, 2, 2, 2);
        lasts(race("d5d5d5d5", 60), 0, 12, 12, 12, 12);
        RelayRace x = new RelayRace();
        for (int v : outside(10, 60)) due("along(" + v + ")", x.along(v), BAD);
        due("count(2)", x.count(2), 30);
    }

    @Says("EVENTS, 8 at most (0 on):")
    static void s1_noEventTo8Events() {
        RelayRace x = told("d5d5d5d5");
        due("count(3)", x.count(3), 0);
        due("never() of no EVENTS", x.never(), 0);
        for (int n = 1; n <= 8; n++) {
            due("event, the " + n + "th", x.event(TRIP, n, 0), n);
            due("never(), EVENTS 0 to " + (n - 1), x.never(), (1 << n) - 1);
        }
        due("event, a ninth", x.event(TRIP, 9, 0), FULL);
        due("count(3)", x.count(3), 8);
    }

    @Says("a kind, a MOMENT, a number 0 to 3:")
    static void s1_kinds0To2AndNumbers0To3() {
        RelayRace x = new RelayRace();
        for (int k : outside(0, 2)) due("event(" + k + ", 5, 1)", x.event(k, 5, 1), BAD);
        for (int kind = 0; kind < 3; kind++) {
            for (int n : outside(0, 3)) due("event(" + kind + ", 5, " + n + ")", x.event(kind, 5, n), BAD);
        }
        for (int kind = 0; kind < 3; kind++) {
            due("event(" + kind + ", 5, 0)", x.event(kind, 5, 0), 2 * kind + 1);
            due("event(" + kind + ", 5, 3)", x.event(kind, 5, 3), 2 * kind + 2);
        }
    }

    @Says("0 RAIN from that MOMENT on (whatever number is told),")
    static void s1_rainFromItsMomentToTheLast() {
        metres(race("d5d5d5d5", 60, RAIN, 0, 0), 0, 0, 4, 8, 12);
        metres(race("d5d5d5d5", 60, RAIN, 2, 0), 0, 0, 5, 10, 14, 18);
        due("at(47, 0, 0)", race("d5d5d5d5", 60, RAIN, 2, 0).at(47, 0, 0), 10 + 46 * 4);
        metres(race("d5d5d5d5", 60, RAIN, 46, 0), 0, 45, 230, 234, 238);
        metres(race("d5d5d5d5", 60, RAIN, 47, 0), 0, 46, 235, 239);
    }

    @Says("0 RAIN from that MOMENT on (whatever number is told),")
    static void s1_rainFallsOnAllTeamsByAnyNumber() {
        for (int number = 0; number < 4; number++) {
            RelayRace x = race("d5d5d5d5;d6d6d6d6;d7d7d7d7;d8d8d8d8", 60, RAIN, 1, number);
            for (int team = 0; team < 4; team++) metres(x, team, 0, 5 + team, 9 + 2 * team, 13 + 3 * team);
        }
    }

    @Says("1 that TEAM TRIPS in it,")
    static void s1_aTripInThatMomentOfThatTeamAlone() {
        for (int number = 0; number < 4; number++) {
            RelayRace x = race("d5d5d5d5;d5d5d5d5;d5d5d5d5", 60, TRIP, 2, number);
            for (int team = 0; team < 3; team++) {
                if (team == number) metres(x, team, 0, 5, 10, 10, 15, 20);
                else metres(x, team, 0, 5, 10, 15, 20, 25);
            }
        }
    }

    @Says("1 that TEAM TRIPS in it,")
    static void s1_aTripInTheFirstAndInTheLastMoment() {
        metres(race("d5d5d5d5", 60, TRIP, 0, 0), 0, 0, 0, 5, 10);
        RelayRace x = race("d5d5d5d5", 60, TRIP, 47, 0);
        metres(x, 0, 45, 230, 235, 235);
        due("home(0)", x.home(0), NONE);
    }

    @Says("2 that TEAM DROPS the baton in it.")
    static void s1_aDropOfThatTeamAlone() {
        for (int number = 0; number < 4; number++) {
            RelayRace x = race("d5d5d5d5;d5d5d5d5;d5d5d5d5", 60, DROP, 1, number);
            for (int team = 0; team < 3; team++) {
                if (team == number) metres(x, team, 0, 5, 5, 5, 5, 10);
                else metres(x, team, 0, 5, 10, 15, 20, 25);
            }
        }
    }

    // ---- STRIDES

    @Says("In a MOMENT the RUNNER of each TEAM that is not HOME goes on by its STRIDE:")
    static void s1_onlyATeamThatIsHomeGoesNoFarther() {
        RelayRace x = race("s9s9s9s9;d9d9d9d9;d1d1d1d1", 10);
        metres(x, 0, 0, 10, 20, 30, 40, 40, 40);
        metres(x, 1, 0, 9, 18, 27, 36, 45, 45, 45);
        due("at(47, 0, 0)", x.at(47, 0, 0), 40);
        due("at(47, 1, 0)", x.at(47, 1, 0), 45);
        metres(x, 2, 38, 39, 40, 40, 40);
    }

    @Says("a sprinter by its PACE and 1 in its first three MOMENTS,")
    static void s1_sprinterInItsFirstThreeMoments() {
        metres(race("s5s5s5s5", 60), 0, 0, 6, 12, 18, 23);
        metres(race("s9s9s9s9", 60), 0, 0, 10, 20, 30, 39);
        metres(race("s1s1s1s1", 60), 0, 0, 2, 4, 6, 7);
    }

    @Says("by its PACE in the next three,")
    static void s1_sprinterInItsNextThreeMoments() {
        metres(race("s5s5s5s5", 60), 0, 2, 18, 23, 28, 33, 37);
    }

    @Says("by 1 less later;")
    static void s1_sprinterFromItsSeventhMomentOn() {
        // The next sprinter, from MOMENT 13 on, has first three MOMENTS of its own.
        metres(race("s5s5s5s5", 60), 0, 5, 33, 37, 41, 45, 49, 53, 57, 61, 67, 73, 79, 84, 89, 94, 98);
    }

    @Says("a dogged one by its PACE;")
    static void s1_doggedAtAnyPace() {
        for (int pace = 1; pace <= 9; pace++) {
            RelayRace x = race("d" + pace + "d1d1d1", 60);
            for (int m = 0; m < 6; m++) metres(x, 0, m, pace * (m + 1));
        }
        metres(race("d6d6d6d6", 60), 0, 6, 42, 48, 54, 60, 66);
    }

    @Says("a nervous one by 1 less in its first MOMENT,")
    static void s1_nervousInItsFirstMoment() {
        metres(race("n5n5n5n5", 60), 0, 0, 4);
        metres(race("n9n9n9n9", 60), 0, 0, 8);
        // LEG 0 is done behind MOMENT 12: the next has a first MOMENT of its own.
        metres(race("n5n5n5n5", 60), 0, 12, 64, 68, 73);
    }

    @Says("by its PACE later;")
    static void s1_nervousFromItsSecondMomentOn() {
        metres(race("n5n5n5n5", 60), 0, 0, 4, 9, 14, 19, 24, 29, 34, 39, 44, 49, 54, 59, 64);
    }

    @Says("all by 1 less in RAIN")
    static void s1_allSortsAreSlowerInRain() {
        RelayRace x = race("s5s5s5s5;d5d5d5d5;n5n5n5n5", 60, RAIN, 0, 0);
        metres(x, 0, 0, 5, 10, 15, 19, 23, 27, 30, 33);
        metres(x, 1, 0, 4, 8, 12, 16);
        metres(x, 2, 0, 3, 7, 11, 15);
    }

    @Says("(by no more than that, however often it began);")
    static void s1_rainThatBeganOftenIsNoWorse() {
        RelayRace x = race("d5d5d5d5", 60, RAIN, 4, 0, RAIN, 1, 1, RAIN, 1, 2, RAIN, 2, 3,
                RAIN, 3, 0, RAIN, 5, 1, RAIN, 47, 2, RAIN, 1, 3);
        metres(x, 0, 0, 5, 9, 13, 17, 21, 25, 29);
        due("at(47, 0, 0)", x.at(47, 0, 0), 5 + 47 * 4);
    }

    @Says("by 1 at least each.")
    static void s1_noStrideIsBelow1() {
        metres(race("d1d1d1d1", 60, RAIN, 0, 0), 0, 0, 1, 2, 3);
        metres(race("n1n1n1n1", 60), 0, 0, 1, 2, 3);
        metres(race("n1n1n1n1", 60, RAIN, 0, 0), 0, 0, 1, 2, 3);
        metres(race("n2n2n2n2", 60, RAIN, 0, 0), 0, 0, 1, 2, 3);
        metres(race("n3n3n3n3", 60, RAIN, 0, 0), 0, 0, 1, 3, 5);
        metres(race("s1s1s1s1", 60), 0, 0, 2, 4, 6, 7, 8, 9, 10, 11);
        metres(race("s1s1s1s1", 60, RAIN, 0, 0), 0, 0, 1, 2, 3, 4, 5, 6, 7, 8);
        metres(race("s2s2s2s2", 60, RAIN, 0, 0), 0, 0, 2, 4, 6, 7, 8, 9, 10, 11);
        metres(race("s3s3s3s3", 60, RAIN, 0, 0), 0, 0, 3, 6, 9, 11, 13, 15, 16, 17);
    }

    @Says("It stands, if its TEAM TRIPS in that MOMENT,")
    static void s1_itStandsByOneTripAsByTwo() {
        metres(race("d5d5d5d5", 60, TRIP, 1, 0, TRIP, 1, 0), 0, 0, 5, 5, 10, 15);
        metres(race("d5d5d5d5", 60, TRIP, 1, 0, TRIP, 2, 0), 0, 0, 5, 5, 5, 10);
    }

    @Says("or DROPS the baton in it, in the one ahead or the one ahead of that;")
    static void s1_aDropTakesThreeMoments() {
        metres(race("d5d5d5d5", 60, DROP, 0, 0), 0, 0, 0, 0, 0, 5, 10);
        metres(race("d5d5d5d5", 60, DROP, 4, 0), 0, 3, 20, 20, 20, 20, 25);
        metres(race("d5d5d5d5", 60, DROP, 0, 0, DROP, 2, 0), 0, 0, 0, 0, 0, 0, 0, 5);
        metres(race("d5d5d5d5", 60, DROP, 1, 0, TRIP, 2, 0), 0, 0, 5, 5, 5, 5, 10);
    }

    @Says("or DROPS the baton in it, in the one ahead or the one ahead of that;")
    static void s1_aDropInTheLastThreeMoments() {
        metres(race("d4d4d4d4", 60, DROP, 44, 0), 0, 43, 176, 176, 176, 176, 180);
        metres(race("d4d4d4d4", 60, DROP, 45, 0), 0, 44, 180, 180, 180, 180);
        metres(race("d4d4d4d4", 60, DROP, 46, 0), 0, 44, 180, 184, 184, 184);
        metres(race("d4d4d4d4", 60, DROP, 47, 0), 0, 44, 180, 184, 188, 188);
    }

    @Says("such a MOMENT counts as one of its own.")
    static void s1_standingUsesUpTheFirstMoments() {
        metres(race("s5s5s5s5", 60, TRIP, 0, 0), 0, 0, 0, 6, 12, 17, 22, 27, 31);
        metres(race("s5s5s5s5", 60, DROP, 0, 0), 0, 0, 0, 0, 0, 5, 10, 15, 19);
        metres(race("s5s5s5s5", 60, DROP, 3, 0), 0, 2, 18, 18, 18, 18, 22);
        metres(race("n5n5n5n5", 60, TRIP, 0, 0), 0, 0, 0, 5, 10);
        // LEG 0 is done behind MOMENT 1, and the nervous one of LEG 1 trips in its first.
        metres(race("d5n5d5d5", 10), 0, 1, 10, 14, 19, 24);
        metres(race("d5n5d5d5", 10, TRIP, 2, 0), 0, 1, 10, 10, 15, 20);
        due("lasted(0, 1)", race("d5n5d5d5", 10, TRIP, 2, 0).lasted(0, 1), 3);
    }

    // ---- LEGS done, HOME

    @Says("When the TEAM is as far as all its LEGS by then are LONG together, or farther, that LEG is done,")
    static void s1_aLegIsDoneAtItsVeryEnd() {
        RelayRace x = race("d5d5d5d5", 10);
        due("at(0, 0, 1), 5 metres of 10", x.at(0, 0, 1), 0);
        due("at(1, 0, 1), 10 metres of 10", x.at(1, 0, 1), 1);
        x = race("d5d5d5d5", 11);
        due("at(1, 0, 1), 10 metres of 11", x.at(1, 0, 1), 0);
        due("at(2, 0, 1), 15 metres of 11", x.at(2, 0, 1), 1);
        x = race("d1d1d1d1", 10);
        due("at(8, 0, 1), 9 metres of 10", x.at(8, 0, 1), 0);
        due("at(9, 0, 1), 10 metres of 10", x.at(9, 0, 1), 1);
    }

    @Says("When the TEAM is as far as all its LEGS by then are LONG together, or farther, that LEG is done,")
    static void s1_legsCountTogetherNotEachForItself() {
        // 15, 25, 35 and 45 metres are behind 11, 22, 33 and 44.
        lasts(race("d5d5d5d5", 11), 0, 3, 2, 2, 2);
        // 20 metres by two strides of 10: each ends a LEG, none two.
        RelayRace x = race("s9s9s9s9", 10);
        lasts(x, 0, 1, 1, 1, 1);
        for (int m = 0; m < 4; m++) due("at(" + m + ", 0, 1)", x.at(m, 0, 1), m + 1);
    }

    @Says("and the next RUNNER goes on in the next MOMENT, from where it is;")
    static void s1_theNextRunnerGoesOnFromThere() {
        RelayRace x = race("d9d1d9d1", 10);
        metres(x, 0, 0, 9, 18, 19, 20, 29, 38, 39, 40, 40);
        lasts(x, 0, 2, 2, 2, 2);
    }

    @Says("behind LEG 3 the TEAM is HOME.")
    static void s1_homeBehindLeg3() {
        RelayRace x = race("d5d5d5d5", 10);
        due("at(6, 0, 1), 35 metres of 40", x.at(6, 0, 1), 3);
        due("at(7, 0, 1), 40 metres of 40", x.at(7, 0, 1), 4);
        due("home(0)", x.home(0), 7);
        due("at(47, 0, 1)", x.at(47, 0, 1), 4);
    }

    // ---- FRACTIONS, LOTS

    @Says("FRACTIONS are told in lowest terms, above and below (0 by 1).")
    static void s1_fractions() {
        RelayRace x = race("d5d5d5d5;d5d5d5d5", 30, TRIP, 0, 0);
        chances(x, 8, 1, 1, 2);
        chances(x, 4, 1, 1, 4);
        chances(x, 2, 1, 1, 8);
        chances(x, 1, 1, 1, 16);
        chances(x, 6, 1, 3, 8);
        chances(x, 15, 1, 15, 16);
        chances(x, 16, 1, 1, 1);
        chances(x, 0, 1, 0, 1);
        chances(x, 16, 0, 0, 1);
    }

    @Says("LOTS of m: SEED becomes 1103515245 SEED and 12345, as ints that wrap;")
    static void s1_lotsOfSeedsThatWrap() {
        for (int seed : new int[] {LEAST, LEAST + 1, MOST, MOST - 1, -1, 0, 1, 2, 1103515245, -12345, 65536, -65536}) {
            likeDrawn(seed, 8);
        }
    }

    @Says("its upper 16 bits as a number from 0 on, modulo m.")
    static void s1_lotsAreNeverBelow0() {
        for (int seed = -60; seed <= 60; seed++) likeDrawn(seed * 35791394, 1 + Math.floorMod(seed, 8));
    }

    /** YEARS by a SEED are as those of a race told the EVENTS that the document's arithmetic draws, in longs. */
    private static void likeDrawn(int seed, int n) {
        String teams = "s6s6s6s6;s6s6s6s6;s6s6s6s6;s6s6s6s6";
        RelayRace drawn = race(teams, 55);
        long s = Integer.toUnsignedLong(seed);
        int[] of = {3, 48, 4};
        for (int k = 0; k < n; k++) {
            int[] lots = new int[3];
            for (int i = 0; i < 3; i++) {
                s = (1103515245L * s + 12345L) % 4294967296L;
                lots[i] = (int) (s / 65536 % of[i]);
            }
            due("event of SEED " + seed, drawn.event(lots[0], lots[1], lots[2]), k + 1);
        }
        RelayRace x = race(teams, 55);
        due("years(" + seed + ", " + n + ", 0)", x.years(seed, n, 0), drawn.won(0));
        due("years(" + seed + ", " + n + ", 1)", x.years(seed, n, 1), drawn.won(1));
    }

    // ---- SHEETS, FINDINGS

    @Says("SHEETS 0 .. 3 are LOST (at first) or a row of a FORM:")
    static void s1_fourSheetsAllLostAtFirst() {
        RelayRace x = new RelayRace();
        for (int s = 0; s < 4; s++) due("lose(" + s + ")", x.lose(s), NULL);
        for (int s : outside(0, 3)) due("lose(" + s + ")", x.lose(s), BAD);
        for (int s = 0; s < 4; s++) due("sheet(" + s + ", 0, 1)", x.sheet(s, 0, 1), 1);
        for (int s = 0; s < 4; s++) x.put(s, 0, 0, s + 1);
        for (int s = 0; s < 4; s++) due("get(" + s + ", 0, 0)", x.get(s, 0, 0), s + 1);
    }

    @Says("0 bytes, 1 shorts, 2 ints,")
    static void s1_formsHoldWhatTheyHold() {
        RelayRace x = new RelayRace();
        for (int form = 0; form < 3; form++) x.sheet(form, form, 1);
        int[][] heldAs = {{127, 127, 127, 127}, {128, -128, 128, 128}, {-128, -128, -128, -128},
            {-129, 127, -129, -129}, {255, -1, 255, 255}, {256, 0, 256, 256}, {32767, -1, 32767, 32767},
            {32768, 0, -32768, 32768}, {-32768, 0, -32768, -32768}, {-32769, -1, 32767, -32769},
            {65535, -1, -1, 65535}, {65536, 0, 0, 65536}, {MOST, -1, -1, MOST}, {LEAST, 0, 0, LEAST}};
        for (int[] h : heldAs) {
            for (int form = 0; form < 3; form++) {
                x.put(form, form, 0, h[0]);
                due(h[0] + " in FORM " + form, x.get(form, form, 0), h[form + 1]);
            }
        }
        for (int form : outside(0, 2)) due("sheet(0, " + form + ", 1)", x.sheet(0, form, 1), BAD);
    }

    @Says("of 0 to 60 items (0 at first).")
    static void s1_noItemTo60ItemsAllOfThem0() {
        RelayRace x = new RelayRace();
        for (int form = 0; form < 3; form++) {
            due("sheet(0, " + form + ", 0)", x.sheet(0, form, 0), 0);
            due("put into no items", x.put(0, form, 0, 1), INDEX);
            due("sheet(0, " + form + ", 60)", x.sheet(0, form, 60), 60);
            for (int i = 0; i < 60; i++) due("get(0, " + form + ", " + i + ")", x.get(0, form, i), 0);
            for (int i = 0; i < 60; i++) x.put(0, form, i, 9);
            due("put behind 60 items", x.put(0, form, 60, 1), INDEX);
            due("sheet(0, " + form + ", 61)", x.sheet(0, form, 61), BAD);
            due("sheet(0, " + form + ", -1)", x.sheet(0, form, -1), SIZE);
        }
    }

    @Says("FINDINGS (answers -10 less the number; they change nothing but count() 8):")
    static void s1_findingsChangeNothingElse() {
        refused("lose(3)", Boundary::some, (x, a) -> x.lose(3), -10 - 1, 1);
        refused("put(0, 0, 3, 1)", Boundary::some, (x, a) -> x.put(0, 0, 3, 1), -10 - 2, 2);
        refused("put(0, 1, 0, 1)", Boundary::some, (x, a) -> x.put(0, 1, 0, 1), -10 - 3, 3);
        refused("copy(0, 0, 1, 0, 1)", Boundary::some, (x, a) -> x.copy(0, 0, 1, 0, 1), -10 - 4, 4);
        refused("sheet(0, 0, -1)", Boundary::fresh, (x, a) -> x.sheet(0, 0, -1), -10 - 5, 5);
    }

    @Says("1 NULL: the SHEET is LOST;")
    static void s1_findingNull() {
        RelayRace x = told("d5d5d5d5");
        due("lose(0)", x.lose(0), NULL);
        due("count(8)", x.count(8), 1);
        due("read(0)", x.read(0), NULL);
        due("write(0, 0)", x.write(0, 0), NULL);
        x.sheet(0, 0, 0);
        due("lose(0), not LOST though empty", x.lose(0), 0);
        due("lose(0), LOST again", x.lose(0), NULL);
    }

    @Says("2 INDEX: there is no such item;")
    static void s1_findingIndex() {
        RelayRace x = new RelayRace();
        x.sheet(0, 0, 3);
        for (int i : outside(0, 2)) {
            due("put(0, 0, " + i + ", 1)", x.put(0, 0, i, 1), INDEX);
            due("count(8)", x.count(8), 2);
        }
        due("put(0, 0, 0, 1)", x.put(0, 0, 0, 1), 1);
        due("put(0, 0, 2, 1)", x.put(0, 0, 2, 1), 1);
    }

    @Says("3 CAST: it has another FORM;")
    static void s1_findingCast() {
        for (int form = 0; form < 3; form++) {
            RelayRace x = new RelayRace();
            x.sheet(0, form, 1);
            for (int as = 0; as < 3; as++) {
                due("put(0, " + as + ", 0, 1) in FORM " + form, x.put(0, as, 0, 1), as == form ? 1 : CAST);
                due("count(8)", x.count(8), as == form && form == 0 ? 0 : 3);
            }
        }
    }

    @Says("4 STORE: unlike FORMS;")
    static void s1_findingStore() {
        for (int form = 0; form < 3; form++) {
            for (int other = 0; other < 3; other++) {
                RelayRace x = new RelayRace();
                x.sheet(0, form, 1);
                x.sheet(1, other, 1);
                due("copy of FORM " + form + " to " + other, x.copy(0, 0, 1, 0, 1), form == other ? 1 : STORE);
                due("count(8)", x.count(8), form == other ? 0 : 4);
            }
        }
    }

    @Says("5 SIZE: below 0.")
    static void s1_findingSize() {
        RelayRace x = new RelayRace();
        due("sheet(0, 0, 0)", x.sheet(0, 0, 0), 0);
        due("count(8)", x.count(8), 0);
        due("sheet(0, 0, -1)", x.sheet(0, 0, -1), SIZE);
        due("count(8)", x.count(8), 5);
        due("sheet(1, 2, least)", x.sheet(1, 2, LEAST), SIZE);
    }

    // ---- refusals

    @Says("BAD -2 (a number not as told, no such thing), NULL, NOT -3 (as told), FULL -4, other FINDINGS.")
    static void r_theNumberOfEachRefusal() {
        due("BAD", RelayRace.BAD, -2);
        due("NOT", RelayRace.NOT, -3);
        due("FULL", RelayRace.FULL, -4);
        due("NONE", RelayRace.NONE, -1);
        RelayRace x = full();
        due("type(256), a number not as told", x.type(256), -2);
        due("home(4), no such thing", x.home(4), -2);
        due("type(0)", x.type(0), -4);
        due("event(0, 0, 0)", x.event(0, 0, 0), -4);
        due("seen(0, 0, 0)", x.seen(0, 0, 0), -4);
        due("undo()", new RelayRace().undo(), -3);
        due("back()", new RelayRace().back(), -3);
        due("lose(0)", new RelayRace().lose(0), -11);
    }

    @Says("Refusals, the first that fits, in the order told at each act:")
    static void r_BAD_aheadOfEachOther() {
        RelayRace x = full();
        due("type(256) at 35 bytes", x.type(256), BAD);
        due("event(3, 0, 0) at 8", x.event(3, 0, 0), BAD);
        due("event(0, 48, 0) at 8", x.event(0, 48, 0), BAD);
        due("event(0, 0, 4) at 8", x.event(0, 0, 4), BAD);
        due("seen(48, 0, 0) at 8", x.seen(48, 0, 0), BAD);
        due("seen(0, 4, 0) at 8", x.seen(0, 4, 0), BAD);
        due("seen(0, 0, 4) at 8", x.seen(0, 0, 4), BAD);
        x = new RelayRace();
        due("sheet(4, 0, -1)", x.sheet(4, 0, -1), BAD);
        due("sheet(0, 3, -1)", x.sheet(0, 3, -1), BAD);
        due("put(0, 3, 0, 0), LOST", x.put(0, 3, 0, 0), BAD);
        due("copy(0, 0, 4, 0, -1), LOST", x.copy(0, 0, 4, 0, -1), BAD);
        due("copy(4, 0, 0, 0, -1), LOST", x.copy(4, 0, 0, 0, -1), BAD);
        due("write(0, 0), no TEAM, LOST", x.write(0, 0), BAD);
        due("count(8)", x.count(8), 0);
    }

    @Says("Refusals, the first that fits, in the order told at each act:")
    static void r_NULL_aheadOfOtherFindings() {
        RelayRace x = new RelayRace();
        x.sheet(0, 0, 1);
        x.sheet(1, 1, 1);
        x.lose(0);
        due("put(0, 1, 9, 0), LOST", x.put(0, 1, 9, 0), NULL);
        due("copy(0, 9, 1, 9, -1), LOST", x.copy(0, 9, 1, 9, -1), NULL);
        due("copy(1, 9, 0, 9, -1), LOST", x.copy(1, 9, 0, 9, -1), NULL);
    }

    @Says("Refusals, the first that fits, in the order told at each act:")
    static void r_CAST_and_STORE_aheadOf_INDEX() {
        RelayRace x = new RelayRace();
        x.sheet(0, 0, 1);
        x.sheet(1, 1, 1);
        due("put(0, 1, 9, 0)", x.put(0, 1, 9, 0), CAST);
        due("copy(0, 9, 1, 9, -1)", x.copy(0, 9, 1, 9, -1), STORE);
    }

    @Says("They change nothing (FINDINGS but count() 8).")
    static void r_manyRefusalsOneBehindTheOther() {
        RelayRace x = some();
        RelayRace other = some();
        int[][] odd = {{-1, -1, -1}, {LEAST, LEAST, LEAST}, {MOST, MOST, MOST}, {4, 48, 9}, {61, 61, 61}};
        for (int[] o : odd) {
            x.type(o[0] < 0 ? o[0] : 256);
            x.along(o[0]);
            x.event(o[0], o[1], o[2]);
            x.seen(o[0], o[1], o[2]);
            x.read(o[0]);
            x.sheet(o[0], o[1], o[2]);
            x.sheet(0, 0, -1);
            x.put(o[0], o[1], o[2], 5);
            x.put(0, 0, 60, 5);
            x.copy(0, 0, 1, 0, 1);
            x.copy(0, 0, 0, 1, 60);
            x.write(o[0], o[1]);
            x.lose(o[0]);
            x.years(o[0], o[1], o[2]);
        }
        due("count(8)", x.count(8), 2);
        if (x.along(9) != BAD || !all(x).equals(all(other))) fail("a refused call changed something");
    }

    @Says("Where the answer is a long, a refusal -x is the least long and x more.")
    static void r_aRefusalAsALong() {
        due("chance(17, 0, 0)", some().chance(17, 0, 0), Long.MIN_VALUE + 2);
        due("chance(-1, 0, 0)", some().chance(-1, 0, 0), Long.MIN_VALUE + 2);
        due("chance(8, 3, 1)", some().chance(8, 3, 1), Long.MIN_VALUE + 2);
        due("chance(8, 0, 2)", some().chance(8, 0, 2), Long.MIN_VALUE + 2);
        due("chance(8, 0, 0) without TEAMS", new RelayRace().chance(8, 0, 0), Long.MIN_VALUE + 2);
    }
}
