import java.util.Random;

/** Long runs of calls, drawn by fixed seeds, on RelayRace and on PlainModel: every answer must be the same. */
public final class ModelTest {
    private static final int RUNS = 500;
    /** An object is good for 512 calls; one step of a run may take some 40 of them. */
    private static final int ENOUGH_CALLS = 460;
    private static final int[] ODD = {-1, -2, Integer.MIN_VALUE, Integer.MAX_VALUE, 4, 48, 61};

    private static int wrong = 0;
    private final Random random;
    private final RelayRace race = new RelayRace();
    private final PlainModel model = new PlainModel();
    private final StringBuilder told = new StringBuilder();
    /** One kind of run tells little and asks much; another tells wrong things often. */
    private final boolean wild;
    private int calls = 0;

    private ModelTest(int seed) {
        random = new Random(seed);
        wild = seed % 3 == 0;
    }

    public static void main(String[] args) {
        for (int seed = 0; seed < RUNS && wrong < 10; seed++) {
            new ModelTest(seed).runAll(seed);
        }
        System.out.println(wrong == 0 ? "RelayRace and the plain model agree" : wrong + " runs differ");
        if (wrong != 0) System.exit(1);
    }

    private void runAll(int seed) {
        if (!wild) tellTeams();
        while (calls < ENOUGH_CALLS) {
            told.setLength(0);
            long[] both = call();
            if (both[0] != both[1]) {
                wrong++;
                System.out.println("seed " + seed + ", call " + calls + ": " + told + " answered " + both[0]
                        + ", the model says " + both[1]);
                return;
            }
        }
        told.setLength(0);
        if (race.digest() != model.digest()) {
            wrong++;
            System.out.println("seed " + seed + ": digest() differs at the end");
        }
    }

    private void tellTeams() {
        calls++;
        race.wipe();
        model.wipe();
        int teams = 1 + random.nextInt(4);
        int base = 1 + random.nextInt(6);
        for (int t = 0; t < teams; t++) {
            if (t > 0) typeBoth(';');
            for (int leg = 0; leg < 4; leg++) {
                typeBoth("sdn".charAt(random.nextInt(3)));
                typeBoth('0' + base + random.nextInt(4));
            }
        }
    }

    private void typeBoth(int b) {
        calls++;
        race.type(b);
        model.type(b);
    }

    /** A number from least to most, and now and then one that is not. */
    private int num(int least, int most) {
        int r = random.nextInt(wild ? 12 : 60);
        if (r == 0) return ODD[random.nextInt(ODD.length)];
        if (r == 1) return most + 1;
        if (r == 2) return least - 1;
        return least + random.nextInt(most - least + 1);
    }

    private int a(int v) {
        told.append(v).append(' ');
        return v;
    }

    private long[] both(String name, long got, long want) {
        calls++;
        told.insert(0, name + " ");
        return new long[] {got, want};
    }

    private long[] call() {
        int pick = random.nextInt(100);
        if (pick < 3) return retell();
        if (pick < 12) return tell();
        if (pick < 40) return moments();
        if (pick < 65) return plans();
        return sheets();
    }

    private long[] retell() {
        switch (random.nextInt(wild ? 5 : 3)) {
            case 0: tellTeams(); return both("fault", race.fault(), model.fault());
            case 1: return both("undo", race.undo(), model.undo());
            case 2: return both("forget", race.forget(), model.forget());
            case 3: return both("wipe", race.wipe(), model.wipe());
            default: tellTeams(); return both("undo", race.undo(), model.undo());
        }
    }

    private long[] tell() {
        switch (random.nextInt(8)) {
            case 0: {
                String likely = "sdn123456789;";
                int b = random.nextInt(6) == 0 ? num(0, 255) : likely.charAt(random.nextInt(likely.length()));
                return both("type", race.type(a(b)), model.type(b));
            }
            case 1: { int v = num(10, 60); return both("along", race.along(a(v)), model.along(v)); }
            case 2: return backSome();
            case 3: {
                int m = num(0, 47), t = num(0, 3), r = num(0, 3);
                return both("seen", race.seen(a(m), a(t), a(r)), model.seen(m, t, r));
            }
            case 4: return seenTruly();
            case 5: { int s = num(0, 3); return both("read", race.read(a(s)), model.read(s)); }
            default: {
                int k = num(0, 2), m = random.nextInt(3) == 0 ? num(0, 47) : num(0, 30), n = num(0, 3);
                return both("event", race.event(a(k), a(m), a(n)), model.event(k, m, n));
            }
        }
    }

    /** Several at once now and then, else there would nearly always be 8 events. */
    private long[] backSome() {
        int more = random.nextInt(3) == 0 ? random.nextInt(8) : 0;
        calls += more;
        for (int k = 0; k < more; k++) {
            if (race.back() != model.back()) throw new IllegalStateException("back");
        }
        return both("back", race.back(), model.back());
    }

    /** What the race shows now, so that what was seen does not rule everything out. */
    private long[] seenTruly() {
        int m = random.nextInt(48);
        int t = random.nextInt(Math.max(1, model.count(0)));
        int r = Math.max(0, model.at(m, t, 2));
        return both("seen", race.seen(a(m), a(t), a(r)), model.seen(m, t, r));
    }

    private long[] moments() {
        int team = num(0, Math.max(0, model.count(0) - 1));
        int leg = num(0, 3);
        switch (random.nextInt(9)) {
            case 0: { int w = num(0, 1); return both("runner", race.runner(a(team), a(leg), a(w)), model.runner(team, leg, w)); }
            case 1: { int m = num(0, 47), w = num(0, 2); return both("at", race.at(a(m), a(team), a(w)), model.at(m, team, w)); }
            case 2: return both("home", race.home(a(team)), model.home(team));
            case 3: return both("lasted", race.lasted(a(team), a(leg)), model.lasted(team, leg));
            case 4: { int w = num(0, 1); return both("won", race.won(a(w)), model.won(w)); }
            case 5: return both("changes", race.changes(), model.changes());
            case 6: { int w = num(0, 1); return both("leader", race.leader(a(w)), model.leader(w)); }
            case 7: return both("stood", race.stood(a(team)), model.stood(team));
            default: return both("fault", race.fault(), model.fault());
        }
    }

    private long[] plans() {
        int team = num(0, Math.max(0, model.count(0) - 1));
        int leg = num(0, 3);
        int w = num(0, 1);
        switch (random.nextInt(9)) {
            case 0: { int i = num(0, 4); return both("order", race.order(a(team), a(i)), model.order(team, i)); }
            case 1: return both("train", race.train(a(team), a(w)), model.train(team, w));
            case 2: return both("fit", race.fit(a(team)), model.fit(team));
            case 3: { int i = num(-1, 1); return both("spare", race.spare(a(i)), model.spare(i)); }
            case 4: return both("never", race.never(), model.never());
            case 5: return both("was", race.was(a(team), a(leg), a(w)), model.was(team, leg, w));
            case 6: return both("ask", race.ask(a(team), a(leg)), model.ask(team, leg));
            case 7: { int c = num(0, 16); return both("chance", race.chance(a(c), a(team), a(w)), model.chance(c, team, w)); }
            default: {
                int seed = random.nextInt(), n = num(0, 8);
                return both("years", race.years(a(seed), a(n), a(w)), model.years(seed, n, w));
            }
        }
    }

    private long[] sheets() {
        int s = num(0, 3), f = num(0, random.nextInt(3)), t = num(0, 3);
        switch (random.nextInt(9)) {
            case 0: { int n = num(0, 60); return both("sheet", race.sheet(a(s), a(f), a(n)), model.sheet(s, f, n)); }
            case 1: {
                if (random.nextInt(3) != 0) return both("count", race.count(a(8)), model.count(8));
                return both("lose", race.lose(a(s)), model.lose(s));
            }
            case 2:
            case 3: {
                int i = num(0, 12), v = random.nextInt(4) == 0 ? random.nextInt() : random.nextInt(3);
                return both("put", race.put(a(s), a(f), a(i), a(v)), model.put(s, f, i, v));
            }
            case 4:
            case 5: { int i = num(0, 59); return both("get", race.get(a(s), a(f), a(i)), model.get(s, f, i)); }
            case 6: {
                int i = num(0, 20), j = num(0, 20), n = num(0, 20);
                return both("copy", race.copy(a(s), a(i), a(t), a(j), a(n)), model.copy(s, i, t, j, n));
            }
            case 7: {
                int team = num(0, Math.max(0, model.count(0) - 1));
                return both("write", race.write(a(team), a(s)), model.write(team, s));
            }
            default: { int w = num(0, 8); return both("count", race.count(a(w)), model.count(w)); }
        }
    }
}
