import java.util.Random;

/** Random runs of calls, held against the model; the seeds are fixed, so that a run that fails comes again. */
public final class FuzzTest {
    private static final int RUNS = 400;

    /** An object is used for at most 512 calls; a step may be some 40 of them. */
    private static final int CALLS = 460;

    private final Random random;
    private final TugOfWar x = new TugOfWar();
    private final Model m = new Model();
    private final StringBuilder told = new StringBuilder();
    private int calls = 0;
    private int wrong = 0;

    private FuzzTest(long seed) {
        random = new Random(seed);
    }

    public static void main(String[] args) {
        int passed = 0;
        int failed = 0;
        for (int run = 0; run < RUNS; run++) {
            FuzzTest test = new FuzzTest(run);
            test.run(run);
            passed += test.wrong == 0 ? 1 : 0;
            failed += test.wrong == 0 ? 0 : 1;
        }
        System.out.println("FuzzTest: " + passed + " passed, " + failed + " failed");
        if (failed > 0) {
            System.exit(1);
        }
    }

    private void run(int run) {
        typeTeams();
        while (calls < CALLS && wrong == 0) {
            step();
        }
        due("digest()", x.digest(), m.digest());
        if (wrong > 0) {
            System.out.println("run " + run + ":" + told);
        }
    }

    private void due(String call, long got, long want) {
        calls++;
        told.append(' ').append(call).append('=').append(got);
        if (got != want) {
            wrong++;
            System.out.println(call + " answered " + got + ", due is " + want);
        }
    }

    private int upTo(int most) {
        return random.nextInt(most + 1);
    }

    /** Mostly a number from 0 to most, now and then one beside that. */
    private int near(int most) {
        int r = random.nextInt(60);
        if (r == 0) {
            return -1;
        }
        if (r == 1) {
            return most + 1;
        }
        if (r == 2) {
            return random.nextInt();
        }
        return upTo(most);
    }

    private void typeText(int text, String s) {
        for (int i = 0; i < s.length(); i++) {
            type(text, s.charAt(i));
        }
    }

    private void type(int text, int b) {
        due("type(" + text + "," + b + ")", x.type(text, b), m.type(text, b));
    }

    private void wipe(int text) {
        due("wipe(" + text + ")", x.wipe(text), m.wipe(text));
    }

    private String team() {
        StringBuilder s = new StringBuilder();
        int n = random.nextInt(9);
        int strong = 1 + random.nextInt(9);
        for (int i = 0; i < n; i++) {
            s.append(i > 0 ? ";" : "").append("hla".charAt(upTo(2))).append(1 + random.nextInt(strong))
                .append(1 + random.nextInt(9));
        }
        return s.toString();
    }

    private String callsText() {
        StringBuilder s = new StringBuilder();
        int n = random.nextInt(25);
        for (int i = 0; i < n; i++) {
            s.append("rph".charAt(upTo(2)));
        }
        return s.toString();
    }

    private void typeTeams() {
        for (int text = 0; text < 4; text++) {
            typeText(text, text < 2 ? team() : callsText());
        }
    }

    private void step() {
        int r = random.nextInt(100);
        if (r < 22) {
            tell();
        } else if (r < 50) {
            askBeats();
        } else if (r < 76) {
            askPlans();
        } else {
            useSheets();
        }
    }

    private void tell() {
        int text = near(3);
        switch (random.nextInt(9)) {
            case 0 -> {
                int b = random.nextBoolean() ? near(255) : "hlarp;123456789".charAt(upTo(14));
                type(text, b);
            }
            case 1 -> due("undo(" + text + ")", x.undo(text), m.undo(text));
            case 2 -> {
                wipe(text);
                if (text >= 0 && text < 4) {
                    typeText(text, text < 2 ? team() : callsText());
                }
            }
            case 3 -> {
                int v = near(9);
                due("mud(" + v + ")", x.mud(v), m.mud(v));
            }
            case 4 -> due("back()", x.back(), m.back());
            case 5 -> {
                int s = near(3);
                due("read(" + s + ")", x.read(s), m.read(s));
            }
            default -> {
                int k = near(2);
                int b = random.nextBoolean() ? upTo(6) : near(23);
                int n = near(15);
                due("event(" + k + "," + b + "," + n + ")", x.event(k, b, n), m.event(k, b, n));
            }
        }
    }

    private void askBeats() {
        int beat = near(23);
        int p = near(15);
        int what = near(1);
        int team = near(1);
        int four = near(3);
        int text = near(3);
        switch (random.nextInt(12)) {
            case 0 -> due("rope(" + beat + "," + four + ")", x.rope(beat, four), m.rope(beat, four));
            case 1 -> due("at(" + beat + "," + p + "," + what + ")", x.at(beat, p, what), m.at(beat, p, what));
            case 2 -> due("won(" + what + ")", x.won(what), m.won(what));
            case 3 -> due("furthest(" + what + ")", x.furthest(what), m.furthest(what));
            case 4 -> due("done(" + p + ")", x.done(p), m.done(p));
            case 5 -> due("spent()", x.spent(), m.spent());
            case 6 -> due("best()", x.best(), m.best());
            case 7 -> due("level()", x.level(), m.level());
            case 8 -> due("fault(" + text + ")", x.fault(text), m.fault(text));
            case 9 -> due("puller(" + p + "," + four + ")", x.puller(p, four), m.puller(p, four));
            case 10 -> due("call(" + team + "," + beat + ")", x.call(team, beat), m.call(team, beat));
            default -> {
                int c = near(8);
                due("count(" + c + ")", x.count(c), m.count(c));
            }
        }
    }

    private void askPlans() {
        int beat = near(23);
        int p = near(15);
        int what = near(1);
        int team = near(1);
        int three = near(2);
        switch (random.nextInt(11)) {
            case 0 -> due("better(" + team + "," + beat + "," + what + ")",
                x.better(team, beat, what), m.better(team, beat, what));
            case 1 -> due("swap(" + team + "," + three + ")", x.swap(team, three), m.swap(team, three));
            case 2 -> due("out(" + team + "," + what + ")", x.out(team, what), m.out(team, what));
            case 3 -> due("spare(" + (three - 1) + ")", x.spare(three - 1), m.spare(three - 1));
            case 4 -> {
                // A place that the ROPE was at keeps something that fits.
                calls += 2;
                int place = random.nextInt(4) > 0 ? x.rope(upTo(23), 0) : near(24);
                int b = random.nextInt(4) > 0 ? 23 : beat;
                int at = b == 23 && random.nextInt(4) > 0 ? x.rope(23, 0) : place;
                due("seen(" + b + "," + at + ")", x.seen(b, at), m.seen(b, at));
            }
            case 5 -> due("forget()", x.forget(), m.forget());
            case 6 -> due("never()", x.never(), m.never());
            case 7 -> due("was(" + p + "," + what + ")", x.was(p, what), m.was(p, what));
            case 8 -> due("ask(" + p + ")", x.ask(p), m.ask(p));
            case 9 -> {
                int c = near(16);
                due("chance(" + c + "," + team + "," + what + ")", x.chance(c, team, what), m.chance(c, team, what));
            }
            default -> {
                int seed = random.nextInt();
                int n = near(24);
                due("years(" + seed + "," + n + "," + what + ")", x.years(seed, n, what), m.years(seed, n, what));
            }
        }
    }

    private void useSheets() {
        int s = near(3);
        int t = near(3);
        int form = near(2);
        int i = near(12);
        int j = near(12);
        int n = near(12);
        int v = random.nextInt(3) == 0 ? random.nextInt() : random.nextInt(3) == 0 ? near(23) : near(2);
        switch (random.nextInt(9)) {
            case 0 -> {
                int most = random.nextInt(4) == 0 ? near(60) : near(24);
                due("sheet(" + s + "," + form + "," + most + ")", x.sheet(s, form, most), m.sheet(s, form, most));
            }
            case 1 -> {
                if (random.nextInt(4) == 0) {
                    due("lose(" + s + ")", x.lose(s), m.lose(s));
                }
            }
            case 2, 3, 4 -> due("put(" + s + "," + form + "," + i + "," + v + ")",
                x.put(s, form, i, v), m.put(s, form, i, v));
            case 5 -> due("get(" + s + "," + form + "," + i + ")", x.get(s, form, i), m.get(s, form, i));
            case 6 -> due("copy(" + s + "," + i + "," + t + "," + j + "," + n + ")",
                x.copy(s, i, t, j, n), m.copy(s, i, t, j, n));
            case 7 -> due("write(" + s + ")", x.write(s), m.write(s));
            default -> due("count(8)", x.count(8), m.count(8));
        }
    }
}
