import java.math.BigInteger;
import java.util.ArrayList;
import java.util.HashMap;
import java.util.List;
import java.util.Map;

/**
 * The document once more, in the plainest words: nothing is kept but what was told, and every
 * question runs the race anew. RelayRace is compared with it; the two share no code.
 */
final class PlainModel {
    static final int NONE = -1, BAD = -2, NOT = -3, FULL = -4;

    /** One runner: its sort (0 s, 1 d, 2 n) and pace. */
    record Runner(int sort, int pace) { }

    record Event(int kind, int moment, int number) { }

    record Sight(int moment, int team, int rank) { }

    private final StringBuilder text = new StringBuilder();
    private int along = 30;
    private List<Event> events = new ArrayList<>();
    private final List<Sight> sights = new ArrayList<>();
    private final Object[] sheets = new Object[4];
    private int finding = 0;

    // ---- the race

    /** All that happens in 48 moments, by moment and team. */
    static final class Run {
        final int teams;
        final int[][] metres;
        final int[][] leg;
        final int[] home;
        final int[] stood;
        final int[][] lasted;

        Run(List<List<Runner>> field, int along, List<Event> events) {
            teams = field.size();
            metres = new int[48][teams];
            leg = new int[48][teams];
            home = new int[teams];
            stood = new int[teams];
            lasted = new int[teams][4];
            for (int t = 0; t < teams; t++) {
                home[t] = NONE;
                java.util.Arrays.fill(lasted[t], NONE);
                int far = 0;
                int onLeg = 0;
                int own = 0;
                for (int m = 0; m < 48; m++) {
                    if (onLeg < 4) {
                        own++;
                        if (stands(events, t, m)) {
                            stood[t]++;
                        } else {
                            far += stride(field.get(t).get(onLeg), own, rains(events, m));
                        }
                        if (far >= along * (onLeg + 1)) {
                            lasted[t][onLeg] = own;
                            onLeg++;
                            own = 0;
                            if (onLeg == 4) home[t] = m;
                        }
                    }
                    metres[m][t] = far;
                    leg[m][t] = onLeg;
                }
            }
        }

        private static boolean stands(List<Event> events, int team, int moment) {
            for (Event e : events) {
                if (e.number != team) continue;
                if (e.kind == 1 && e.moment == moment) return true;
                if (e.kind == 2 && (e.moment == moment || e.moment == moment - 1 || e.moment == moment - 2)) return true;
            }
            return false;
        }

        private static boolean rains(List<Event> events, int moment) {
            for (Event e : events) {
                if (e.kind == 0 && e.moment <= moment) return true;
            }
            return false;
        }

        /** own: 1 in the runner's first moment. */
        private static int stride(Runner r, int own, boolean rain) {
            int by = r.pace;
            if (r.sort == 0 && own <= 3) by = r.pace + 1;
            if (r.sort == 0 && own > 6) by = r.pace - 1;
            if (r.sort == 2 && own == 1) by = r.pace - 1;
            if (rain) by = by - 1;
            return by < 1 ? 1 : by;
        }

        boolean ahead(int a, int b, int moment) {
            boolean homeA = leg[moment][a] == 4;
            boolean homeB = leg[moment][b] == 4;
            if (homeA != homeB) return homeA;
            if (homeA && home[a] != home[b]) return home[a] < home[b];
            if (metres[moment][a] != metres[moment][b]) return metres[moment][a] > metres[moment][b];
            return a < b;
        }

        int rank(int team, int moment) {
            int n = 0;
            for (int o = 0; o < teams; o++) {
                if (o != team && ahead(o, team, moment)) n++;
            }
            return n;
        }

        int first(int moment) {
            for (int t = 0; t < teams; t++) {
                if (rank(t, moment) == 0) return t;
            }
            return NONE;
        }

        int won() {
            int best = NONE;
            for (int t = 0; t < teams; t++) {
                if (home[t] == NONE) continue;
                if (best == NONE || home[t] < home[best]
                        || home[t] == home[best] && metres[47][t] > metres[47][best]) best = t;
            }
            return best;
        }

        boolean allSeen(List<Sight> sights) {
            for (Sight s : sights) {
                if (s.team >= teams || rank(s.team, s.moment) != s.rank) return false;
            }
            return true;
        }

        String ranks(int moment) {
            StringBuilder all = new StringBuilder();
            for (int t = 0; t < teams; t++) all.append(rank(t, moment));
            return all.toString();
        }
    }

    private List<List<Runner>> field() {
        List<List<Runner>> all = new ArrayList<>();
        if (fault() != NONE || text.length() == 0) return all;
        for (String team : text.toString().split(";")) {
            List<Runner> four = new ArrayList<>();
            for (int leg = 0; leg < 4; leg++) {
                four.add(new Runner("sdn".indexOf(team.charAt(2 * leg)), team.charAt(2 * leg + 1) - '0'));
            }
            all.add(four);
        }
        return all;
    }

    private Run run() {
        return new Run(field(), along, events);
    }

    private Run runWith(int team, int leg, Runner other) {
        List<List<Runner>> all = field();
        all.get(team).set(leg, other);
        return new Run(all, along, events);
    }

    private boolean noTeam(int team) {
        return team < 0 || team >= field().size();
    }

    private static boolean out(int v, int least, int most) {
        return v < least || v > most;
    }

    // ---- teams, long, events

    int type(int b) {
        if (out(b, 0, 255)) return BAD;
        if (text.length() == 35) return FULL;
        text.append((char) b);
        return text.length();
    }

    int wipe() {
        int n = text.length();
        text.setLength(0);
        return n;
    }

    int undo() {
        if (text.length() == 0) return NOT;
        text.setLength(text.length() - 1);
        return text.length();
    }

    int fault() {
        String form = "t#t#t#t#;t#t#t#t#;t#t#t#t#;t#t#t#t#";
        for (int i = 0; i < text.length(); i++) {
            char want = form.charAt(i);
            String may = want == 't' ? "sdn" : want == '#' ? "123456789" : ";";
            if (may.indexOf(text.charAt(i)) < 0) return i;
        }
        int n = text.length();
        return n == 0 || n == 8 || n == 17 || n == 26 || n == 35 ? NONE : n;
    }

    int runner(int team, int leg, int what) {
        if (noTeam(team) || out(leg, 0, 3) || out(what, 0, 1)) return BAD;
        Runner r = field().get(team).get(leg);
        return what == 0 ? r.sort : r.pace;
    }

    int along(int v) {
        if (out(v, 10, 60)) return BAD;
        int had = along;
        along = v;
        return had;
    }

    int event(int kind, int moment, int number) {
        if (out(kind, 0, 2) || out(moment, 0, 47) || out(number, 0, 3)) return BAD;
        if (events.size() == 8) return FULL;
        events.add(new Event(kind, moment, number));
        return events.size();
    }

    int back() {
        if (events.isEmpty()) return NOT;
        events.remove(events.size() - 1);
        return events.size();
    }

    int read(int s) {
        if (out(s, 0, 3)) return BAD;
        if (sheets[s] == null) return find(1);
        int whole = size(s) / 3, came = 0;
        while (came < whole && event(item(s, 3 * came), item(s, 3 * came + 1), item(s, 3 * came + 2)) > 0) came++;
        return came;
    }

    // ---- moments

    int at(int moment, int team, int what) {
        if (out(moment, 0, 47) || noTeam(team) || out(what, 0, 2)) return BAD;
        Run r = run();
        return what == 0 ? r.metres[moment][team] : what == 1 ? r.leg[moment][team] : r.rank(team, moment);
    }

    int home(int team) {
        return noTeam(team) ? BAD : run().home[team];
    }

    int lasted(int team, int leg) {
        return noTeam(team) || out(leg, 0, 3) ? BAD : run().lasted[team][leg];
    }

    private static int wonOf(Run r, int what) {
        int w = r.won();
        return w == NONE || what == 0 ? w : r.home[w];
    }

    int won(int what) {
        return out(what, 0, 1) ? BAD : wonOf(run(), what);
    }

    int changes() {
        Run r = run();
        int n = 0;
        for (int m = 1; m < 48; m++) {
            if (r.first(m) != r.first(m - 1)) n++;
        }
        return n;
    }

    int leader(int what) {
        if (out(what, 0, 1)) return BAD;
        Run r = run();
        if (r.teams == 0) return NONE;
        int[] times = new int[r.teams];
        for (int m = 0; m < 48; m++) times[r.first(m)]++;
        int best = 0;
        for (int t = 1; t < r.teams; t++) {
            if (times[t] > times[best]) best = t;
        }
        return what == 0 ? best : times[best];
    }

    int stood(int team) {
        return noTeam(team) ? BAD : run().stood[team];
    }

    // ---- plans

    int order(int team, int i) {
        if (noTeam(team) || out(i, 0, 4)) return BAD;
        int best = NONE;
        String bestRow = "";
        for (int code = 123; code <= 3210; code++) {
            String row = String.format("%04d", code);
            if (!(row.contains("0") && row.contains("1") && row.contains("2") && row.contains("3"))) continue;
            List<List<Runner>> all = field();
            List<Runner> four = new ArrayList<>();
            for (int leg = 0; leg < 4; leg++) four.add(all.get(team).get(row.charAt(leg) - '0'));
            all.set(team, four);
            int home = new Run(all, along, events).home[team];
            if (home != NONE && (best == NONE || home < best)) {
                best = home;
                bestRow = row;
            }
        }
        if (best == NONE || i == 4) return best;
        return bestRow.charAt(i) - '0';
    }

    int train(int team, int what) {
        if (noTeam(team) || out(what, 0, 1)) return BAD;
        int best = NONE;
        int who = NONE;
        for (int leg = 0; leg < 4; leg++) {
            Runner r = field().get(team).get(leg);
            int home = runWith(team, leg, new Runner(r.sort, r.pace == 9 ? 9 : r.pace + 1)).home[team];
            if (home != NONE && (best == NONE || home < best)) {
                best = home;
                who = leg;
            }
        }
        return what == 0 ? who : best;
    }

    int fit(int team) {
        if (noTeam(team)) return BAD;
        for (int v = 10; v <= 60; v++) {
            if (new Run(field(), v, events).won() == team) return v;
        }
        return NONE;
    }

    private int wonWithout(int a, int b) {
        List<Event> left = new ArrayList<>();
        for (int e = 0; e < events.size(); e++) {
            if (e != a && e != b) left.add(events.get(e));
        }
        return new Run(field(), along, left).won();
    }

    int spare(int i) {
        if (out(i, -1, 1)) return BAD;
        if (wonWithout(NONE, NONE) == 0) return i == NONE ? 0 : NONE;
        for (int a = 0; a < events.size(); a++) {
            if (wonWithout(a, NONE) == 0) return i == NONE ? 1 : i == 0 ? a : NONE;
        }
        for (int a = 0; a < events.size(); a++) {
            for (int b = a + 1; b < events.size(); b++) {
                if (wonWithout(a, b) == 0) return i == NONE ? 2 : i == 0 ? a : b;
            }
        }
        return NONE;
    }

    // ---- seen, chance, years

    int seen(int moment, int team, int rank) {
        if (out(moment, 0, 47) || out(team, 0, 3) || out(rank, 0, 3)) return BAD;
        if (sights.size() == 8) return FULL;
        sights.add(new Sight(moment, team, rank));
        return sights.size();
    }

    int forget() {
        int n = sights.size();
        sights.clear();
        return n;
    }

    int never() {
        int bits = 0;
        for (int e = 0; e < events.size(); e++) {
            List<Event> left = new ArrayList<>(events);
            left.remove(e);
            if (new Run(field(), along, left).allSeen(sights)) bits += 1 << e;
        }
        return bits;
    }

    int was(int team, int leg, int what) {
        if (noTeam(team) || out(leg, 0, 3) || out(what, 0, 1)) return BAD;
        Runner r = field().get(team).get(leg);
        int bits = 0;
        for (int v = what == 0 ? 1 : 0; v <= (what == 0 ? 9 : 2); v++) {
            Runner other = what == 0 ? new Runner(r.sort, v) : new Runner(v, r.pace);
            if (runWith(team, leg, other).allSeen(sights)) bits += 1 << v;
        }
        return bits;
    }

    int ask(int team, int leg) {
        if (noTeam(team) || out(leg, 0, 3)) return BAD;
        Runner r = field().get(team).get(leg);
        List<Run> runs = new ArrayList<>();
        for (int pace = 1; pace <= 9; pace++) {
            Run other = runWith(team, leg, new Runner(r.sort, pace));
            if (other.allSeen(sights)) runs.add(other);
        }
        int best = NONE;
        int least = Integer.MAX_VALUE;
        for (int m = 0; m < 48; m++) {
            Map<String, Integer> groups = new HashMap<>();
            for (Run other : runs) groups.merge(other.ranks(m), 1, Integer::sum);
            int greatest = 0;
            for (int n : groups.values()) greatest = Math.max(greatest, n);
            if (greatest < least) {
                least = greatest;
                best = m;
            }
        }
        return best;
    }

    long chance(int c, int team, int what) {
        if (out(c, 0, 16) || noTeam(team) || out(what, 0, 1)) return Long.MIN_VALUE + 2;
        BigInteger above = BigInteger.ZERO;
        for (int set = 0; set < 1 << events.size(); set++) {
            List<Event> left = new ArrayList<>();
            BigInteger weight = BigInteger.ONE;
            for (int e = 0; e < events.size(); e++) {
                boolean is = (set & 1 << e) != 0;
                if (is) left.add(events.get(e));
                weight = weight.multiply(BigInteger.valueOf(is ? c : 16 - c));
            }
            if (new Run(field(), along, left).won() == team) above = above.add(weight);
        }
        BigInteger below = BigInteger.valueOf(16).pow(events.size());
        BigInteger common = above.gcd(below);
        return (what == 0 ? above : below).divide(common).longValueExact();
    }

    private int seed;

    private int lot(int m) {
        seed = 1103515245 * seed + 12345;
        return Integer.divideUnsigned(seed, 65536) % m;
    }

    int years(int seed, int n, int what) {
        if (out(n, 0, 8) || out(what, 0, 1)) return BAD;
        this.seed = seed;
        List<Event> year = new ArrayList<>();
        for (int k = 0; k < n; k++) {
            int kind = lot(3);
            int moment = lot(48);
            int number = lot(4);
            year.add(new Event(kind, moment, number));
        }
        return wonOf(new Run(field(), along, year), what);
    }

    // ---- sheets

    private int find(int number) {
        finding = number;
        return -10 - number;
    }

    private int form(int s) {
        return sheets[s] instanceof byte[] ? 0 : sheets[s] instanceof short[] ? 1 : 2;
    }

    private int size(int s) {
        return java.lang.reflect.Array.getLength(sheets[s]);
    }

    private int item(int s, int i) {
        return java.lang.reflect.Array.getInt(sheets[s], i);
    }

    private void set(int s, int i, int v) {
        if (form(s) == 0) ((byte[]) sheets[s])[i] = (byte) v;
        else if (form(s) == 1) ((short[]) sheets[s])[i] = (short) v;
        else ((int[]) sheets[s])[i] = v;
    }

    int sheet(int s, int form, int n) {
        if (out(s, 0, 3) || out(form, 0, 2) || n > 60) return BAD;
        if (n < 0) return find(5);
        sheets[s] = form == 0 ? new byte[n] : form == 1 ? new short[n] : new int[n];
        return n;
    }

    int lose(int s) {
        if (out(s, 0, 3)) return BAD;
        if (sheets[s] == null) return find(1);
        int n = size(s);
        sheets[s] = null;
        return n;
    }

    int put(int s, int form, int i, int v) {
        if (out(s, 0, 3) || out(form, 0, 2)) return BAD;
        if (sheets[s] == null) return find(1);
        if (form(s) != form) return find(3);
        if (out(i, 0, size(s) - 1)) return find(2);
        set(s, i, v);
        return 1;
    }

    int get(int s, int form, int i) {
        if (out(s, 0, 3) || out(form, 0, 2)) return Integer.MIN_VALUE;
        if (sheets[s] == null) find(1);
        else if (form(s) != form) find(3);
        else if (out(i, 0, size(s) - 1)) find(2);
        else return item(s, i);
        return Integer.MIN_VALUE;
    }

    int copy(int s, int i, int t, int j, int n) {
        if (out(s, 0, 3) || out(t, 0, 3)) return BAD;
        if (sheets[s] == null || sheets[t] == null) return find(1);
        if (form(s) != form(t)) return find(4);
        if (i < 0 || j < 0 || n < 0 || (long) i + n > size(s) || (long) j + n > size(t)) return find(2);
        int[] were = new int[n];
        for (int k = 0; k < n; k++) were[k] = item(s, i + k);
        for (int k = 0; k < n; k++) set(t, j + k, were[k]);
        return 1;
    }

    int write(int team, int s) {
        if (noTeam(team) || out(s, 0, 3)) return BAD;
        if (sheets[s] == null) return find(1);
        int n = Math.min(48, size(s));
        for (int m = 0; m < n; m++) set(s, m, run().metres[m][team]);
        return n;
    }

    int count(int what) {
        Run r = run();
        int home = 0;
        int metres = 0;
        for (int t = 0; t < r.teams; t++) {
            if (r.home[t] != NONE) home++;
            metres += r.metres[47][t];
        }
        int[] all = {r.teams, text.length(), along, events.size(), home, changes(), metres, sights.size(), finding};
        return out(what, 0, 8) ? BAD : all[what];
    }

    long digest() {
        List<Long> all = new ArrayList<>();
        for (int what = 0; what < 8; what++) all.add((long) count(what));
        all.add((long) fault());
        for (int t = 0; t < field().size(); t++) {
            for (int m : new int[] {0, 9, 18, 30, 47}) {
                for (int what = 0; what < 3; what++) all.add((long) at(m, t, what));
            }
            for (int leg = 0; leg < 4; leg++) {
                all.add((long) runner(t, leg, 0));
                all.add((long) runner(t, leg, 1));
                all.add((long) lasted(t, leg));
                all.add((long) was(t, leg, 0));
                all.add((long) was(t, leg, 1));
                all.add((long) ask(t, leg));
            }
            all.add((long) home(t));
            all.add((long) stood(t));
            for (int i = 0; i < 5; i++) all.add((long) order(t, i));
            all.add((long) train(t, 0));
            all.add((long) train(t, 1));
            all.add((long) fit(t));
            all.add(chance(5, t, 0));
            all.add(chance(5, t, 1));
        }
        for (int v : new int[] {won(0), won(1), leader(0), leader(1), spare(NONE), spare(0), never(),
                years(7, 6, 0), years(7, 6, 1)}) all.add((long) v);
        long h = 17;
        for (long v : all) h = 31 * h + v;
        return h;
    }
}
