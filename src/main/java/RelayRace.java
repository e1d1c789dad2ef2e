import java.util.Arrays;

/** A relay race of up to four teams: told as a text, run moment by moment, planned for and looked back on. */
public final class RelayRace {
    public static final int NONE = -1, BAD = -2, NOT = -3, FULL = -4;

    private static final int MOMENTS = 48;
    private static final int LAST_MOMENT = 47;
    private static final int LEGS = 4;
    private static final int MOST_TEAMS = 4;
    private static final int MOST_BYTES = 35;
    private static final int TEAM_BYTES = 9;
    private static final int MOST_TRIPLES = 8;
    private static final int EVENT_SETS = 256;
    private static final int LEAST_LONG = 10;
    private static final int MOST_LONG = 60;
    private static final int MOST_PACE = 9;
    private static final int SORTS = 3;
    private static final int SPRINTER = 0;
    private static final int DOGGED = 1;
    private static final int NERVOUS = 2;
    private static final int RAIN = 0;
    private static final int TRIP = 1;
    private static final int DROP = 2;

    private static final int SHEETS = 4;
    private static final int FORMS = 3;
    private static final int MOST_ITEMS = 60;
    private static final int NULL_FOUND = 1;
    private static final int INDEX_FOUND = 2;
    private static final int CAST_FOUND = 3;
    private static final int STORE_FOUND = 4;
    private static final int SIZE_FOUND = 5;
    /** Written out, as the rules list the functions of Integer and Long but not their constants. */
    private static final int LEAST_INT = -2147483648;
    private static final long LONG_BAD = -9223372036854775808L - BAD;

    /** A standing is 4 times the metres, and this for each moment (48 at most) that a team came home sooner. */
    private static final int HOME_STANDING = 4096;
    private static final int[] DIGEST_MOMENTS = {0, 9, 18, 30, 47};

    private final Text text = new Text();
    private final Triples events = new Triples();
    private final Triples sightings = new Triples();
    private final Triples drawn = new Triples();
    /** The race as told, always run to its end; the trial is run anew for each question. */
    private final Race told = new Race();
    private final Race trial = new Race();
    /** The standing of each team by the set of those events that touch it; 0: not yet run. */
    private final int[] standings = new int[MOST_TEAMS * EVENT_SETS];
    private boolean standingsOld = true;
    /** A row of runners and the moment by which it is home. */
    private final int[] plan = new int[LEGS + 1];
    /** How many paces lead to which rank of a team behind each moment. */
    private final int[] alike = new int[MOMENTS * MOST_TEAMS];
    private final Sheet[] sheets = new Sheet[SHEETS];
    private int legLength = 30;
    private int latestFinding = 0;

    public RelayRace() {
        for (int s = 0; s < SHEETS; s++) {
            sheets[s] = new Sheet();
        }
    }

    // ---- teams, long, events

    public int type(int b) {
        if (b < 0 || b > 255) {
            return BAD;
        }
        if (text.length >= MOST_BYTES) {
            return FULL;
        }
        text.append(b);
        told.takeText(text);
        runTold();
        return text.length;
    }

    public int wipe() {
        int had = text.length;
        text.length = 0;
        told.takeText(text);
        runTold();
        return had;
    }

    public int undo() {
        if (text.length == 0) {
            return NOT;
        }
        text.length--;
        told.takeText(text);
        runTold();
        return text.length;
    }

    public int fault() {
        return text.firstFault();
    }

    public int runner(int team, int leg, int what) {
        if (!isTeam(team) || !isLeg(leg) || !isEither(what)) {
            return BAD;
        }
        int place = team * LEGS + leg;
        return what == 0 ? told.sorts[place] : told.paces[place];
    }

    public int along(int v) {
        if (v < LEAST_LONG || v > MOST_LONG) {
            return BAD;
        }
        int before = legLength;
        legLength = v;
        runTold();
        return before;
    }

    public int event(int kind, int moment, int number) {
        if (!isEvent(kind, moment, number)) {
            return BAD;
        }
        if (events.size >= MOST_TRIPLES) {
            return FULL;
        }
        events.append(kind, moment, number);
        runTold();
        return events.size;
    }

    public int back() {
        if (events.size == 0) {
            return NOT;
        }
        events.size--;
        runTold();
        return events.size;
    }

    public int read(int s) {
        if (!isSheet(s)) {
            return BAD;
        }
        Sheet from = sheets[s];
        if (from.lost) {
            return found(NULL_FOUND);
        }
        int before = events.size;
        for (int i = 0; i + 3 <= from.size && events.size < MOST_TRIPLES; i += 3) {
            int[] items = from.items;
            if (!isEvent(items[i], items[i + 1], items[i + 2])) {
                break;
            }
            events.append(items[i], items[i + 1], items[i + 2]);
        }
        runTold();
        return events.size - before;
    }

    private void runTold() {
        standingsOld = true;
        told.setConditions(legLength, events, everyEvent());
        told.runAll();
    }

    private int everyEvent() {
        return (1 << events.size) - 1;
    }

    // ---- moments

    public int at(int moment, int team, int what) {
        if (!isMoment(moment) || !isTeam(team) || what < 0 || what > 2) {
            return BAD;
        }
        if (what == 0) {
            return told.metresAt(team, moment);
        }
        return what == 1 ? told.legAt(team, moment) : told.rankAt(team, moment);
    }

    public int home(int team) {
        return isTeam(team) ? told.homeOf(team) : BAD;
    }

    public int lasted(int team, int leg) {
        if (!isTeam(team) || !isLeg(leg)) {
            return BAD;
        }
        int end = told.ends[team * LEGS + leg];
        if (end == NONE) {
            return NONE;
        }
        int endAhead = leg == 0 ? NONE : told.ends[team * LEGS + leg - 1];
        return end - endAhead;
    }

    public int won(int what) {
        if (!isEither(what)) {
            return BAD;
        }
        return winnerOf(told, what);
    }

    private static int winnerOf(Race race, int what) {
        int winner = race.winner();
        if (winner == NONE) {
            return NONE;
        }
        return what == 0 ? winner : race.homeOf(winner);
    }

    public int changes() {
        int times = 0;
        for (int m = 1; m < MOMENTS; m++) {
            if (told.foremostAt(m) != told.foremostAt(m - 1)) {
                times++;
            }
        }
        return times;
    }

    public int leader(int what) {
        if (!isEither(what)) {
            return BAD;
        }
        int who = NONE;
        int longest = NONE;
        for (int team = 0; team < told.teams; team++) {
            int times = momentsAhead(team);
            if (times > longest) {
                who = team;
                longest = times;
            }
        }
        return what == 0 ? who : longest;
    }

    private int momentsAhead(int team) {
        int times = 0;
        for (int m = 0; m < MOMENTS; m++) {
            if (told.foremostAt(m) == team) {
                times++;
            }
        }
        return times;
    }

    public int stood(int team) {
        return isTeam(team) ? told.stoodOf(team) : BAD;
    }

    // ---- plans

    public int order(int team, int i) {
        if (!isTeam(team) || i < 0 || i > LEGS) {
            return BAD;
        }
        findOrder(team);
        return plan[i];
    }

    private void findOrder(int team) {
        Arrays.fill(plan, NONE);
        trial.takeRace(told);
        for (int a = 0; a < LEGS; a++) {
            for (int b = 0; b < LEGS; b++) {
                for (int c = 0; c < LEGS; c++) {
                    if (a != b && a != c && b != c) {
                        tryOrder(team, a, b, c);
                    }
                }
            }
        }
    }

    private void tryOrder(int team, int a, int b, int c) {
        int d = 6 - a - b - c;
        trial.takeRunner(told, team, 0, a);
        trial.takeRunner(told, team, 1, b);
        trial.takeRunner(told, team, 2, c);
        trial.takeRunner(told, team, 3, d);
        trial.runTeam(team);
        // Rows come least first, so a later one must be sooner to take the place.
        if (isSooner(trial.homeOf(team), plan[LEGS])) {
            plan[0] = a;
            plan[1] = b;
            plan[2] = c;
            plan[3] = d;
            plan[LEGS] = trial.homeOf(team);
        }
    }

    public int train(int team, int what) {
        if (!isTeam(team) || !isEither(what)) {
            return BAD;
        }
        int who = NONE;
        int best = NONE;
        trial.takeRace(told);
        for (int leg = 0; leg < LEGS; leg++) {
            int place = team * LEGS + leg;
            trial.paces[place] = Math.min(MOST_PACE, told.paces[place] + 1);
            trial.runTeam(team);
            trial.paces[place] = told.paces[place];
            if (isSooner(trial.homeOf(team), best)) {
                who = leg;
                best = trial.homeOf(team);
            }
        }
        return what == 0 ? who : best;
    }

    private static boolean isSooner(int home, int best) {
        return home != NONE && (best == NONE || home < best);
    }

    public int fit(int team) {
        if (!isTeam(team)) {
            return BAD;
        }
        trial.takeRace(told);
        for (int length = LEAST_LONG; length <= MOST_LONG; length++) {
            trial.legLength = length;
            trial.runAll();
            if (trial.winner() == team) {
                return length;
            }
        }
        return NONE;
    }

    public int spare(int i) {
        if (i < NONE || i > 1) {
            return BAD;
        }
        prepareStandings();
        int every = everyEvent();
        if (winnerWith(every) == 0) {
            return i == NONE ? 0 : NONE;
        }
        for (int a = 0; a < events.size; a++) {
            if (winnerWith(every & ~(1 << a)) == 0) {
                return spared(i, 1, a, NONE);
            }
        }
        for (int a = 0; a < events.size; a++) {
            for (int b = a + 1; b < events.size; b++) {
                if (winnerWith(every & ~(1 << a) & ~(1 << b)) == 0) {
                    return spared(i, 2, a, b);
                }
            }
        }
        return NONE;
    }

    private static int spared(int i, int howMany, int first, int second) {
        if (i == NONE) {
            return howMany;
        }
        return i == 0 ? first : second;
    }

    /** The trial has the runners as told ahead of the first winnerWith() of a call. */
    private void prepareStandings() {
        trial.takeRace(told);
        if (standingsOld) {
            Arrays.fill(standings, 0);
            standingsOld = false;
        }
    }

    private int winnerWith(int eventSet) {
        int winner = NONE;
        int best = HOME_STANDING - 1;
        for (int team = 0; team < told.teams; team++) {
            int standing = standingWith(team, eventSet);
            if (standing > best) {
                winner = team;
                best = standing;
            }
        }
        return winner;
    }

    private int standingWith(int team, int eventSet) {
        int touching = eventSet & eventsTouching(team);
        int place = team * EVENT_SETS + touching;
        if (standings[place] == 0) {
            trial.setConditions(legLength, events, touching);
            trial.runTeam(team);
            standings[place] = trial.standingAt(team, LAST_MOMENT);
        }
        return standings[place];
    }

    private int eventsTouching(int team) {
        int touching = 0;
        for (int e = 0; e < events.size; e++) {
            if (events.first[e] == RAIN || events.third[e] == team) {
                touching |= 1 << e;
            }
        }
        return touching;
    }

    // ---- seen, chance, years

    public int seen(int moment, int team, int rank) {
        if (!isMoment(moment) || !isNumber(team) || !isNumber(rank)) {
            return BAD;
        }
        if (sightings.size >= MOST_TRIPLES) {
            return FULL;
        }
        sightings.append(moment, team, rank);
        return sightings.size;
    }

    public int forget() {
        int had = sightings.size;
        sightings.size = 0;
        return had;
    }

    public int never() {
        int bits = 0;
        trial.takeRace(told);
        for (int e = 0; e < events.size; e++) {
            trial.setConditions(legLength, events, everyEvent() & ~(1 << e));
            trial.runAll();
            if (trial.comesOutAs(sightings)) {
                bits |= 1 << e;
            }
        }
        return bits;
    }

    public int was(int team, int leg, int what) {
        if (!isTeam(team) || !isLeg(leg) || !isEither(what)) {
            return BAD;
        }
        trial.takeRace(told);
        return what == 0 ? possiblePaces(team, leg) : possibleSorts(team, leg);
    }

    private int possiblePaces(int team, int leg) {
        int bits = 0;
        for (int pace = 1; pace <= MOST_PACE; pace++) {
            trial.paces[team * LEGS + leg] = pace;
            trial.runTeam(team);
            if (trial.comesOutAs(sightings)) {
                bits |= 1 << pace;
            }
        }
        return bits;
    }

    private int possibleSorts(int team, int leg) {
        int bits = 0;
        for (int sort = 0; sort < SORTS; sort++) {
            trial.sorts[team * LEGS + leg] = sort;
            trial.runTeam(team);
            if (trial.comesOutAs(sightings)) {
                bits |= 1 << sort;
            }
        }
        return bits;
    }

    public int ask(int team, int leg) {
        if (!isTeam(team) || !isLeg(leg)) {
            return BAD;
        }
        Arrays.fill(alike, 0);
        trial.takeRace(told);
        for (int pace = 1; pace <= MOST_PACE; pace++) {
            trial.paces[team * LEGS + leg] = pace;
            trial.runTeam(team);
            if (trial.comesOutAs(sightings)) {
                countRanks(team);
            }
        }
        int best = 0;
        for (int m = 1; m < MOMENTS; m++) {
            if (mostAlike(m) < mostAlike(best)) {
                best = m;
            }
        }
        return best;
    }

    /** Only this team's way changes with the pace, so all ranks are alike just where its own rank is. */
    private void countRanks(int team) {
        for (int m = 0; m < MOMENTS; m++) {
            alike[m * MOST_TEAMS + trial.rankAt(team, m)]++;
        }
    }

    private int mostAlike(int moment) {
        int most = 0;
        for (int rank = 0; rank < MOST_TEAMS; rank++) {
            most = Math.max(most, alike[moment * MOST_TEAMS + rank]);
        }
        return most;
    }

    public long chance(int c, int team, int what) {
        if (c < 0 || c > 16 || !isTeam(team) || !isEither(what)) {
            return LONG_BAD;
        }
        prepareStandings();
        long above = 0;
        for (int eventSet = 0; eventSet <= everyEvent(); eventSet++) {
            if (winnerWith(eventSet) == team) {
                above += weight(c, Integer.bitCount(eventSet));
            }
        }
        if (above == 0) {
            return what == 0 ? 0 : 1;
        }
        int twos = sharedTwos(above);
        return what == 0 ? above >> twos : 1L << (4 * events.size - twos);
    }

    /** What stands below is sixteens alone, so nothing but twos can be taken out of both. */
    private int sharedTwos(long above) {
        int twos = 0;
        while (twos < 4 * events.size && (above >> twos & 1L) == 0) {
            twos++;
        }
        return twos;
    }

    private long weight(int c, int happening) {
        long product = 1;
        for (int e = 0; e < events.size; e++) {
            product *= e < happening ? c : 16 - c;
        }
        return product;
    }

    public int years(int seed, int n, int what) {
        if (n < 0 || n > MOST_TRIPLES || !isEither(what)) {
            return BAD;
        }
        drawEvents(seed, n);
        trial.takeRace(told);
        trial.setConditions(legLength, drawn, (1 << n) - 1);
        trial.runAll();
        return winnerOf(trial, what);
    }

    private void drawEvents(int seed, int n) {
        drawn.size = 0;
        int s = seed;
        for (int k = 0; k < n; k++) {
            s = nextSeed(s);
            int kind = (s >>> 16) % 3;
            s = nextSeed(s);
            int moment = (s >>> 16) % MOMENTS;
            s = nextSeed(s);
            drawn.append(kind, moment, (s >>> 16) % MOST_TEAMS);
        }
    }

    private static int nextSeed(int seed) {
        return 1103515245 * seed + 12345;
    }

    // ---- sheets

    public int sheet(int s, int form, int n) {
        if (!isSheet(s) || !isForm(form) || n > MOST_ITEMS) {
            return BAD;
        }
        if (n < 0) {
            return found(SIZE_FOUND);
        }
        sheets[s].begin(form, n);
        return n;
    }

    public int lose(int s) {
        if (!isSheet(s)) {
            return BAD;
        }
        if (sheets[s].lost) {
            return found(NULL_FOUND);
        }
        sheets[s].lost = true;
        return sheets[s].size;
    }

    public int put(int s, int form, int i, int v) {
        if (!isSheet(s) || !isForm(form)) {
            return BAD;
        }
        int finding = findingAt(sheets[s], form, i);
        if (finding != 0) {
            return found(finding);
        }
        sheets[s].store(i, v);
        return 1;
    }

    public int get(int s, int form, int i) {
        if (!isSheet(s) || !isForm(form)) {
            return LEAST_INT;
        }
        int finding = findingAt(sheets[s], form, i);
        if (finding != 0) {
            latestFinding = finding;
            return LEAST_INT;
        }
        return sheets[s].items[i];
    }

    private static int findingAt(Sheet row, int form, int i) {
        if (row.lost) {
            return NULL_FOUND;
        }
        if (row.form != form) {
            return CAST_FOUND;
        }
        return i < 0 || i >= row.size ? INDEX_FOUND : 0;
    }

    public int copy(int s, int i, int t, int j, int n) {
        if (!isSheet(s) || !isSheet(t)) {
            return BAD;
        }
        Sheet from = sheets[s];
        Sheet to = sheets[t];
        if (from.lost || to.lost) {
            return found(NULL_FOUND);
        }
        if (from.form != to.form) {
            return found(STORE_FOUND);
        }
        if (!from.hasItems(i, n) || !to.hasItems(j, n)) {
            return found(INDEX_FOUND);
        }
        System.arraycopy(from.items, i, to.items, j, n);
        return 1;
    }

    public int write(int team, int s) {
        if (!isTeam(team) || !isSheet(s)) {
            return BAD;
        }
        Sheet to = sheets[s];
        if (to.lost) {
            return found(NULL_FOUND);
        }
        int howMany = Math.min(to.size, MOMENTS);
        for (int m = 0; m < howMany; m++) {
            to.store(m, told.metresAt(team, m));
        }
        return howMany;
    }

    public int count(int what) {
        switch (what) {
            case 0: return told.teams;
            case 1: return text.length;
            case 2: return legLength;
            case 3: return events.size;
            case 4: return teamsHome();
            case 5: return changes();
            case 6: return metresTogether();
            case 7: return sightings.size;
            case 8: return latestFinding;
            default: return BAD;
        }
    }

    private int teamsHome() {
        int howMany = 0;
        for (int team = 0; team < told.teams; team++) {
            if (told.homeOf(team) != NONE) {
                howMany++;
            }
        }
        return howMany;
    }

    private int metresTogether() {
        int sum = 0;
        for (int team = 0; team < told.teams; team++) {
            sum += told.metresAt(team, LAST_MOMENT);
        }
        return sum;
    }

    public long digest() {
        long h = 17;
        for (int what = 0; what <= 7; what++) {
            h = 31 * h + count(what);
        }
        h = 31 * h + fault();
        for (int team = 0; team < told.teams; team++) {
            h = digestMoments(h, team);
            h = digestLegs(h, team);
            h = digestPlans(h, team);
        }
        h = 31 * h + won(0);
        h = 31 * h + won(1);
        h = 31 * h + leader(0);
        h = 31 * h + leader(1);
        h = 31 * h + spare(NONE);
        h = 31 * h + spare(0);
        h = 31 * h + never();
        h = 31 * h + years(7, 6, 0);
        return 31 * h + years(7, 6, 1);
    }

    private long digestMoments(long before, int team) {
        long h = before;
        for (int moment : DIGEST_MOMENTS) {
            for (int what = 0; what <= 2; what++) {
                h = 31 * h + at(moment, team, what);
            }
        }
        return h;
    }

    private long digestLegs(long before, int team) {
        long h = before;
        for (int leg = 0; leg < LEGS; leg++) {
            h = 31 * h + runner(team, leg, 0);
            h = 31 * h + runner(team, leg, 1);
            h = 31 * h + lasted(team, leg);
            h = 31 * h + was(team, leg, 0);
            h = 31 * h + was(team, leg, 1);
            h = 31 * h + ask(team, leg);
        }
        return h;
    }

    private long digestPlans(long before, int team) {
        long h = before;
        h = 31 * h + home(team);
        h = 31 * h + stood(team);
        findOrder(team);
        for (int i = 0; i <= LEGS; i++) {
            h = 31 * h + plan[i];
        }
        h = 31 * h + train(team, 0);
        h = 31 * h + train(team, 1);
        h = 31 * h + fit(team);
        h = 31 * h + chance(5, team, 0);
        return 31 * h + chance(5, team, 1);
    }

    // ---- what may be told

    private boolean isTeam(int team) {
        return team >= 0 && team < told.teams;
    }

    private static boolean isLeg(int leg) {
        return leg >= 0 && leg < LEGS;
    }

    private static boolean isMoment(int moment) {
        return moment >= 0 && moment < MOMENTS;
    }

    /** Teams and ranks may be told as numbers though there is no such team. */
    private static boolean isNumber(int number) {
        return number >= 0 && number < MOST_TEAMS;
    }

    private static boolean isEvent(int kind, int moment, int number) {
        return kind >= RAIN && kind <= DROP && isMoment(moment) && isNumber(number);
    }

    private static boolean isEither(int what) {
        return what == 0 || what == 1;
    }

    private static boolean isSheet(int s) {
        return s >= 0 && s < SHEETS;
    }

    private static boolean isForm(int form) {
        return form >= 0 && form < FORMS;
    }

    private int found(int finding) {
        latestFinding = finding;
        return -10 - finding;
    }

    /** The bytes by which teams are told. */
    private static final class Text {
        final int[] bytes = new int[MOST_BYTES];
        int length = 0;

        void append(int b) {
            bytes[length] = b;
            length++;
        }

        /** A fifth team would begin behind the most bytes that there can be, so none is looked for. */
        int firstFault() {
            for (int place = 0; place < length; place++) {
                if (!goesOn(place)) {
                    return place;
                }
            }
            return length == 0 || length % TEAM_BYTES == TEAM_BYTES - 1 ? NONE : length;
        }

        private boolean goesOn(int place) {
            int within = place % TEAM_BYTES;
            if (within == TEAM_BYTES - 1) {
                return bytes[place] == ';';
            }
            if (within % 2 == 0) {
                return sortAt(place) != NONE;
            }
            return bytes[place] >= '1' && bytes[place] <= '9';
        }

        int sortAt(int place) {
            switch (bytes[place]) {
                case 's': return SPRINTER;
                case 'd': return DOGGED;
                case 'n': return NERVOUS;
                default: return NONE;
            }
        }
    }

    /** Up to eight rows of three numbers: events (kind, moment, number) or sightings (moment, team, rank). */
    private static final class Triples {
        final int[] first = new int[MOST_TRIPLES];
        final int[] second = new int[MOST_TRIPLES];
        final int[] third = new int[MOST_TRIPLES];
        int size = 0;

        void append(int a, int b, int c) {
            first[size] = a;
            second[size] = b;
            third[size] = c;
            size++;
        }
    }

    /** Runners, what befalls them, and how far they have come by it. */
    private static final class Race {
        final int[] sorts = new int[MOST_TEAMS * LEGS];
        final int[] paces = new int[MOST_TEAMS * LEGS];
        /** The moments in which each team stands, as bits. */
        final long[] stops = new long[MOST_TEAMS];
        final int[] metres = new int[MOST_TEAMS * MOMENTS];
        /** The moment in which each leg is done, or NONE. */
        final int[] ends = new int[MOST_TEAMS * LEGS];
        int teams = 0;
        int legLength = 0;
        int rainFrom = MOMENTS;

        void takeText(Text text) {
            teams = text.firstFault() == NONE ? (text.length + 1) / TEAM_BYTES : 0;
            for (int team = 0; team < teams; team++) {
                for (int leg = 0; leg < LEGS; leg++) {
                    int place = team * TEAM_BYTES + 2 * leg;
                    sorts[team * LEGS + leg] = text.sortAt(place);
                    paces[team * LEGS + leg] = text.bytes[place + 1] - '0';
                }
            }
        }

        void takeRace(Race other) {
            teams = other.teams;
            legLength = other.legLength;
            rainFrom = other.rainFrom;
            System.arraycopy(other.sorts, 0, sorts, 0, sorts.length);
            System.arraycopy(other.paces, 0, paces, 0, paces.length);
            System.arraycopy(other.stops, 0, stops, 0, stops.length);
            System.arraycopy(other.metres, 0, metres, 0, metres.length);
            System.arraycopy(other.ends, 0, ends, 0, ends.length);
        }

        void takeRunner(Race other, int team, int leg, int otherLeg) {
            sorts[team * LEGS + leg] = other.sorts[team * LEGS + otherLeg];
            paces[team * LEGS + leg] = other.paces[team * LEGS + otherLeg];
        }

        void setConditions(int length, Triples events, int eventSet) {
            legLength = length;
            rainFrom = MOMENTS;
            Arrays.fill(stops, 0L);
            for (int e = 0; e < events.size; e++) {
                if ((eventSet >> e & 1) != 0) {
                    befall(events.first[e], events.second[e], events.third[e]);
                }
            }
        }

        private void befall(int kind, int moment, int number) {
            if (kind == RAIN) {
                rainFrom = moment < rainFrom ? moment : rainFrom;
            } else if (kind == TRIP) {
                stops[number] |= 1L << moment;
            } else {
                stops[number] |= 7L << moment;
            }
        }

        void runAll() {
            for (int team = 0; team < teams; team++) {
                runTeam(team);
            }
        }

        void runTeam(int team) {
            int row = team * MOMENTS;
            int far = 0;
            int leg = 0;
            int own = 0;
            Arrays.fill(ends, team * LEGS, team * LEGS + LEGS, NONE);
            for (int m = 0; m < MOMENTS; m++) {
                if ((stops[team] >> m & 1L) == 0) {
                    far += stride(team * LEGS + leg, own, m);
                }
                own++;
                metres[row + m] = far;
                if (far >= (leg + 1) * legLength) {
                    ends[team * LEGS + leg] = m;
                    leg++;
                    own = 0;
                }
                if (leg == LEGS) {
                    Arrays.fill(metres, row + m, row + MOMENTS, far);
                    break;
                }
            }
        }

        private int stride(int place, int own, int moment) {
            int by = paces[place];
            if (sorts[place] == SPRINTER) {
                by += own < 3 ? 1 : 0;
                by -= own >= 6 ? 1 : 0;
            }
            if (sorts[place] == NERVOUS && own == 0) {
                by--;
            }
            if (moment >= rainFrom) {
                by--;
            }
            return Math.max(1, by);
        }

        int metresAt(int team, int moment) {
            return metres[team * MOMENTS + moment];
        }

        int homeOf(int team) {
            return ends[team * LEGS + LEGS - 1];
        }

        int legAt(int team, int moment) {
            int done = 0;
            for (int leg = 0; leg < LEGS; leg++) {
                int end = ends[team * LEGS + leg];
                if (end != NONE && end <= moment) {
                    done++;
                }
            }
            return done;
        }

        int stoodOf(int team) {
            int home = homeOf(team);
            int until = home == NONE ? MOMENTS : home;
            return Long.bitCount(stops[team] & ((1L << until) - 1));
        }

        /** One number by which teams compare behind a moment: the greater is ahead, and no two are alike. */
        int standingAt(int team, int moment) {
            int home = homeOf(team);
            int sooner = home != NONE && home <= moment ? MOMENTS - home : 0;
            return sooner * HOME_STANDING + 4 * metresAt(team, moment) + 3 - team;
        }

        int rankAt(int team, int moment) {
            int own = standingAt(team, moment);
            int ahead = 0;
            for (int other = 0; other < teams; other++) {
                if (standingAt(other, moment) > own) {
                    ahead++;
                }
            }
            return ahead;
        }

        int foremostAt(int moment) {
            int foremost = NONE;
            int best = NONE;
            for (int team = 0; team < teams; team++) {
                int standing = standingAt(team, moment);
                if (standing > best) {
                    foremost = team;
                    best = standing;
                }
            }
            return foremost;
        }

        int winner() {
            int foremost = foremostAt(LAST_MOMENT);
            return foremost != NONE && homeOf(foremost) != NONE ? foremost : NONE;
        }

        boolean comesOutAs(Triples sightings) {
            for (int k = 0; k < sightings.size; k++) {
                int team = sightings.second[k];
                if (team >= teams || rankAt(team, sightings.first[k]) != sightings.third[k]) {
                    return false;
                }
            }
            return true;
        }
    }

    /** A row of items, kept at its greatest size so that a new one takes no new room. */
    private static final class Sheet {
        final int[] items = new int[MOST_ITEMS];
        boolean lost = true;
        int form = 0;
        int size = 0;

        void begin(int newForm, int newSize) {
            lost = false;
            form = newForm;
            size = newSize;
            Arrays.fill(items, 0);
        }

        void store(int i, int v) {
            if (form == 0) {
                items[i] = (byte) v;
            } else if (form == 1) {
                items[i] = (short) v;
            } else {
                items[i] = v;
            }
        }

        boolean hasItems(int from, int howMany) {
            return from >= 0 && howMany >= 0 && from <= size && howMany <= size - from;
        }
    }
}
