import java.math.BigInteger;
import java.util.ArrayList;
import java.util.Collections;
import java.util.List;
import java.util.regex.Matcher;
import java.util.regex.Pattern;

/**
 * The document once more, written for itself and not for speed: rows are lists, texts are matched by patterns,
 * fractions are of big numbers. FuzzTest holds the program against it.
 */
final class Model {
    private static final int BAD = -2;
    private static final Pattern TEAM = Pattern.compile("|[hla][1-9][1-9](;[hla][1-9][1-9]){0,7}");
    private static final Pattern CALLS = Pattern.compile("[rph]*");

    record Man(int number, char sort, int weight, int wind) { }

    private final StringBuilder[] texts = {
        new StringBuilder(), new StringBuilder(), new StringBuilder(), new StringBuilder()};
    private final List<int[]> events = new ArrayList<>();
    private final List<int[]> seen = new ArrayList<>();
    private final Object[] sheets = new Object[4];
    private int mud = 0;
    private int finding = 0;

    /** One course of the ROPE, from rows of both TEAMS. */
    private static final class Game {
        final int[] rope = new int[24];
        final int[][] team = new int[24][2];
        final int[] mud = new int[24];
        final int[][] pulls = new int[24][16];
        final int[][] breath = new int[24][16];
        int winner = -1;
        int winningBeat = -1;

        Game(List<List<Man>> rows, String[] calls, int mudAtFirst, List<int[]> events) {
            int[] has = new int[16];
            rows.forEach(row -> row.forEach(m -> has[m.number()] = m.wind()));
            int place = 12;
            for (int b = 0; b < 24; b++) {
                final int beat = b;
                long rains = events.stream().filter(e -> e[0] == 1 && e[1] <= beat).count();
                boolean dog = events.stream().anyMatch(e -> e[0] == 2 && e[1] == beat);
                mud[b] = (int) Math.min(9, mudAtFirst + rains);
                for (int t = 0; t < 2 && winner < 0; t++) {
                    List<Man> row = rows.get(t);
                    char call = dog ? 'r' : b < calls[t].length() ? calls[t].charAt(b) : 'p';
                    for (Man m : row) {
                        boolean slips = events.stream().anyMatch(
                            e -> e[0] == 0 && e[1] == beat && e[2] == m.number());
                        boolean anchored = m.sort() == 'a' && row.indexOf(m) == row.size() - 1;
                        int raw = slips ? 0 : act(m, call, anchored, has);
                        int force = m.sort() == 'a' ? raw : Math.max(0, raw - mud[b]);
                        pulls[b][m.number()] = force;
                        team[b][t] += force;
                    }
                }
                if (winner < 0) {
                    int way = Math.min(3, Math.abs(team[b][0] - team[b][1]) / 3);
                    place += team[b][0] > team[b][1] ? way : -way;
                    winner = place >= 22 ? 0 : place <= 2 ? 1 : -1;
                    winningBeat = winner < 0 ? -1 : b;
                }
                rope[b] = place;
                breath[b] = has.clone();
            }
        }

        private static int act(Man m, char call, boolean anchored, int[] has) {
            int n = m.number();
            if (call == 'r') {
                if (anchored) {
                    return m.weight();
                }
                has[n] = Math.min(m.wind(), has[n] + (m.sort() == 'l' ? 2 : 1));
                return 0;
            }
            int bonus = anchored ? 2 : 0;
            int need = m.sort() == 'h' ? 1 : 2;
            if (call == 'h' && has[n] >= need) {
                has[n] -= need;
                return 2 * m.weight() + bonus;
            }
            if (has[n] > 0) {
                has[n]--;
                return m.weight() + bonus;
            }
            return 0;
        }
    }

    private List<Man> row(int team) {
        List<Man> row = new ArrayList<>();
        if (fault(team) == -1 && texts[team].length() > 0) {
            for (String s : texts[team].toString().split(";")) {
                row.add(new Man(8 * team + row.size(), s.charAt(0), s.charAt(1) - '0', s.charAt(2) - '0'));
            }
        }
        return row;
    }

    private List<List<Man>> rows() {
        List<List<Man>> rows = new ArrayList<>();
        rows.add(row(0));
        rows.add(row(1));
        return rows;
    }

    private String[] calls() {
        return new String[] {fault(2) == -1 ? texts[2].toString() : "", fault(3) == -1 ? texts[3].toString() : ""};
    }

    private Game game() {
        return new Game(rows(), calls(), mud, events);
    }

    private Game without(int... gone) {
        List<int[]> left = new ArrayList<>();
        for (int e = 0; e < events.size(); e++) {
            boolean stays = true;
            for (int g : gone) {
                stays &= g != e;
            }
            if (stays) {
                left.add(events.get(e));
            }
        }
        return new Game(rows(), calls(), mud, left);
    }

    private Man man(int number) {
        return rows().stream().flatMap(List::stream).filter(m -> m.number() == number).findFirst().orElse(null);
    }

    private Game instead(Man other) {
        List<List<Man>> rows = rows();
        rows.get(other.number() / 8).set(other.number() % 8, other);
        return new Game(rows, calls(), mud, events);
    }

    private boolean fits(Game g) {
        return seen.stream().allMatch(s -> g.rope[s[0]] == s[1]);
    }

    private int find(int number) {
        finding = number;
        return -10 - number;
    }

    private static boolean in(int n, int from, int to) {
        return n >= from && n <= to;
    }

    int type(int text, int b) {
        if (!in(text, 0, 3) || !in(b, 0, 255)) {
            return BAD;
        }
        if (texts[text].length() == (text < 2 ? 31 : 24)) {
            return -4;
        }
        return texts[text].append((char) b).length();
    }

    int wipe(int text) {
        if (!in(text, 0, 3)) {
            return BAD;
        }
        int n = texts[text].length();
        texts[text].setLength(0);
        return n;
    }

    int undo(int text) {
        if (!in(text, 0, 3)) {
            return BAD;
        }
        int n = texts[text].length();
        if (n == 0) {
            return -3;
        }
        texts[text].setLength(n - 1);
        return n - 1;
    }

    int fault(int text) {
        if (!in(text, 0, 3)) {
            return BAD;
        }
        Pattern pattern = text < 2 ? TEAM : CALLS;
        String s = texts[text].toString();
        for (int i = 1; i <= s.length(); i++) {
            Matcher m = pattern.matcher(s.substring(0, i));
            if (!m.matches() && !m.hitEnd()) {
                return i - 1;
            }
        }
        return pattern.matcher(s).matches() ? -1 : s.length();
    }

    int puller(int puller, int what) {
        Man m = man(puller);
        if (m == null || !in(what, 0, 2)) {
            return BAD;
        }
        return new int[] {"hla".indexOf(m.sort()), m.weight(), m.wind()}[what];
    }

    int call(int team, int beat) {
        if (!in(team, 0, 1) || !in(beat, 0, 23)) {
            return BAD;
        }
        String s = calls()[team];
        return beat < s.length() ? "rph".indexOf(s.charAt(beat)) : 1;
    }

    int mud(int v) {
        if (!in(v, 0, 9)) {
            return BAD;
        }
        int was = mud;
        mud = v;
        return was;
    }

    int event(int kind, int beat, int number) {
        if (!in(kind, 0, 2) || !in(beat, 0, 23) || !in(number, 0, 15)) {
            return BAD;
        }
        if (events.size() == 8) {
            return -4;
        }
        events.add(new int[] {kind, beat, number});
        return events.size();
    }

    int back() {
        if (events.isEmpty()) {
            return -3;
        }
        events.remove(events.size() - 1);
        return events.size();
    }

    int read(int s) {
        if (!in(s, 0, 3)) {
            return BAD;
        }
        if (sheets[s] == null) {
            return find(1);
        }
        int before = events.size();
        for (int i = 0; i < items(s) / 3; i++) {
            if (event(item(s, 3 * i), item(s, 3 * i + 1), item(s, 3 * i + 2)) < 0) {
                break;
            }
        }
        return events.size() - before;
    }

    int rope(int beat, int what) {
        if (!in(beat, 0, 23) || !in(what, 0, 3)) {
            return BAD;
        }
        Game g = game();
        return new int[] {g.rope[beat], g.team[beat][0], g.team[beat][1], g.mud[beat]}[what];
    }

    int at(int beat, int puller, int what) {
        if (!in(beat, 0, 23) || man(puller) == null || !in(what, 0, 1)) {
            return BAD;
        }
        Game g = game();
        return what == 0 ? g.pulls[beat][puller] : g.breath[beat][puller];
    }

    int won(int what) {
        if (!in(what, 0, 1)) {
            return BAD;
        }
        Game g = game();
        return what == 0 ? g.winner : g.winningBeat;
    }

    int furthest(int what) {
        if (!in(what, 0, 1)) {
            return BAD;
        }
        List<Integer> places = new ArrayList<>(List.of(12));
        for (int p : game().rope) {
            places.add(p);
        }
        return what == 0 ? Collections.max(places) : Collections.min(places);
    }

    int done(int puller) {
        if (man(puller) == null) {
            return BAD;
        }
        int all = 0;
        for (int[] row : game().pulls) {
            all += row[puller];
        }
        return all;
    }

    int spent() {
        Game g = game();
        int bits = 0;
        for (int p = 0; p < 16; p++) {
            if (man(p) != null && g.breath[23][p] == 0) {
                bits += 1 << p;
            }
        }
        return bits;
    }

    int best() {
        int who = -1;
        for (int p = 15; p >= 0; p--) {
            if (man(p) != null && done(p) > 0 && (who < 0 || done(p) >= done(who))) {
                who = p;
            }
        }
        return who;
    }

    int level() {
        Game g = game();
        int n = 0;
        for (int b = 0; b < 24; b++) {
            boolean over = g.winner >= 0 && b > g.winningBeat;
            n += !over && g.team[b][0] == g.team[b][1] ? 1 : 0;
        }
        return n;
    }

    /** The first of the rows {place, answers..} whose place is furthest to a TEAM. */
    private static int[] furthestTo(int team, List<int[]> rows) {
        int[] top = null;
        for (int[] r : rows) {
            if (top == null || (team == 0 ? r[0] > top[0] : r[0] < top[0])) {
                top = r;
            }
        }
        return top;
    }

    int better(int team, int beat, int what) {
        if (!in(team, 0, 1) || !in(beat, 0, 23) || !in(what, 0, 1)) {
            return BAD;
        }
        List<int[]> all = new ArrayList<>();
        for (int c = 0; c < 3; c++) {
            String[] calls = calls();
            StringBuilder s = new StringBuilder(calls[team]);
            while (s.length() < 24) {
                s.append('p');
            }
            s.setCharAt(beat, "rph".charAt(c));
            calls[team] = s.toString();
            all.add(new int[] {new Game(rows(), calls, mud, events).rope[23], c});
        }
        return furthestTo(team, all)[1 - what];
    }

    int swap(int team, int what) {
        if (!in(team, 0, 1) || !in(what, 0, 2)) {
            return BAD;
        }
        List<int[]> all = new ArrayList<>();
        int n = row(team).size();
        for (int i = 0; i < n; i++) {
            for (int j = i + 1; j < n; j++) {
                List<List<Man>> rows = rows();
                Collections.swap(rows.get(team), i, j);
                int place = new Game(rows, calls(), mud, events).rope[23];
                all.add(new int[] {place, 8 * team + i, 8 * team + j});
            }
        }
        return all.isEmpty() ? -1 : furthestTo(team, all)[(what + 1) % 3];
    }

    int out(int team, int what) {
        if (!in(team, 0, 1) || !in(what, 0, 1)) {
            return BAD;
        }
        List<int[]> all = new ArrayList<>();
        for (Man m : row(team)) {
            List<List<Man>> rows = rows();
            rows.get(team).remove(m);
            all.add(new int[] {new Game(rows, calls(), mud, events).rope[23], m.number()});
        }
        return all.isEmpty() ? -1 : furthestTo(team, all)[1 - what];
    }

    private int[] spared() {
        int n = events.size();
        List<int[]> tries = new ArrayList<>();
        tries.add(new int[0]);
        for (int i = 0; i < n; i++) {
            tries.add(new int[] {i});
        }
        for (int i = 0; i < n; i++) {
            for (int j = i + 1; j < n; j++) {
                tries.add(new int[] {i, j});
            }
        }
        return tries.stream().filter(t -> without(t).winner != 1).findFirst().orElse(null);
    }

    int spare(int i) {
        if (!in(i, -1, 1)) {
            return BAD;
        }
        int[] s = spared();
        if (s == null) {
            return -1;
        }
        return i < 0 ? s.length : i < s.length ? s[i] : -1;
    }

    int seen(int beat, int place) {
        if (!in(beat, 0, 23) || !in(place, 0, 24)) {
            return BAD;
        }
        if (seen.size() == 8) {
            return -4;
        }
        seen.add(new int[] {beat, place});
        return seen.size();
    }

    int forget() {
        int n = seen.size();
        seen.clear();
        return n;
    }

    int never() {
        int bits = 0;
        for (int e = 0; e < events.size(); e++) {
            bits += fits(without(e)) ? 1 << e : 0;
        }
        return bits;
    }

    int was(int puller, int what) {
        Man m = man(puller);
        if (m == null || !in(what, 0, 1)) {
            return BAD;
        }
        int bits = 0;
        if (what == 0) {
            for (int w = 1; w <= 9; w++) {
                bits += fits(instead(new Man(puller, m.sort(), w, m.wind()))) ? 1 << w : 0;
            }
        } else {
            for (int k = 0; k < 3; k++) {
                bits += fits(instead(new Man(puller, "hla".charAt(k), m.weight(), m.wind()))) ? 1 << k : 0;
            }
        }
        return bits;
    }

    int ask(int puller) {
        Man m = man(puller);
        if (m == null) {
            return BAD;
        }
        int[] greatest = new int[24];
        for (int b = 0; b < 24; b++) {
            int[] at = new int[25];
            for (int w = 1; w <= 9; w++) {
                Game g = instead(new Man(puller, m.sort(), w, m.wind()));
                if (fits(g)) {
                    at[g.rope[b]]++;
                }
            }
            for (int n : at) {
                greatest[b] = Math.max(greatest[b], n);
            }
        }
        int beat = 23;
        for (int b = 22; b >= 0; b--) {
            beat = greatest[b] <= greatest[beat] ? b : beat;
        }
        return beat;
    }

    long chance(int c, int team, int what) {
        if (!in(c, 0, 16) || !in(team, 0, 1) || !in(what, 0, 1)) {
            return Long.MIN_VALUE + 2;
        }
        BigInteger above = BigInteger.ZERO;
        int n = events.size();
        for (int set = 0; set < 1 << n; set++) {
            List<int[]> those = new ArrayList<>();
            BigInteger by = BigInteger.ONE;
            for (int e = 0; e < n; e++) {
                boolean is = (set & 1 << e) != 0;
                if (is) {
                    those.add(events.get(e));
                }
                by = by.multiply(BigInteger.valueOf(is ? c : 16 - c));
            }
            if (by.signum() > 0 && new Game(rows(), calls(), mud, those).winner == team) {
                above = above.add(by);
            }
        }
        BigInteger below = BigInteger.valueOf(16).pow(n);
        BigInteger common = above.gcd(below);
        return (what == 0 ? above : below).divide(common).longValueExact();
    }

    int years(int seed, int n, int what) {
        if (!in(n, 0, 24) || !in(what, 0, 1)) {
            return BAD;
        }
        StringBuilder s = new StringBuilder();
        long x = seed;
        for (int i = 0; i < n; i++) {
            x = (1103515245L * x + 12345L) & 0xFFFFFFFFL;
            s.append("rph".charAt((int) ((x >> 16) % 3)));
        }
        Game g = new Game(rows(), new String[] {calls()[0], s.toString()}, mud, events);
        return what == 0 ? g.rope[23] : g.winner;
    }

    private static int formOf(Object row) {
        return row instanceof byte[] ? 0 : row instanceof short[] ? 1 : 2;
    }

    private int items(int s) {
        return java.lang.reflect.Array.getLength(sheets[s]);
    }

    private int item(int s, int i) {
        return ((Number) java.lang.reflect.Array.get(sheets[s], i)).intValue();
    }

    int sheet(int s, int form, int n) {
        if (!in(s, 0, 3) || !in(form, 0, 2) || n > 60) {
            return BAD;
        }
        if (n < 0) {
            return find(5);
        }
        sheets[s] = form == 0 ? new byte[n] : form == 1 ? new short[n] : new int[n];
        return n;
    }

    int lose(int s) {
        if (!in(s, 0, 3)) {
            return BAD;
        }
        if (sheets[s] == null) {
            return find(1);
        }
        int n = items(s);
        sheets[s] = null;
        return n;
    }

    private int refusal(int s, int form, int i) {
        if (!in(s, 0, 3) || !in(form, 0, 2)) {
            return BAD;
        }
        if (sheets[s] == null) {
            return find(1);
        }
        if (formOf(sheets[s]) != form) {
            return find(3);
        }
        return in(i, 0, items(s) - 1) ? 0 : find(2);
    }

    private void set(int s, int i, int v) {
        if (sheets[s] instanceof byte[] row) {
            row[i] = (byte) v;
        } else if (sheets[s] instanceof short[] row) {
            row[i] = (short) v;
        } else if (sheets[s] instanceof int[] row) {
            row[i] = v;
        }
    }

    int put(int s, int form, int i, int v) {
        int no = refusal(s, form, i);
        if (no != 0) {
            return no;
        }
        set(s, i, v);
        return 1;
    }

    int get(int s, int form, int i) {
        return refusal(s, form, i) != 0 ? Integer.MIN_VALUE : item(s, i);
    }

    int copy(int s, int i, int t, int j, int n) {
        if (!in(s, 0, 3) || !in(t, 0, 3)) {
            return BAD;
        }
        if (sheets[s] == null || sheets[t] == null) {
            return find(1);
        }
        if (formOf(sheets[s]) != formOf(sheets[t])) {
            return find(4);
        }
        if (i < 0 || j < 0 || n < 0 || (long) i + n > items(s) || (long) j + n > items(t)) {
            return find(2);
        }
        int[] those = new int[n];
        for (int k = 0; k < n; k++) {
            those[k] = item(s, i + k);
        }
        for (int k = 0; k < n; k++) {
            set(t, j + k, those[k]);
        }
        return 1;
    }

    int write(int s) {
        if (!in(s, 0, 3)) {
            return BAD;
        }
        if (sheets[s] == null) {
            return find(1);
        }
        int n = Math.min(24, items(s));
        for (int i = 0; i < n; i++) {
            set(s, i, game().rope[i]);
        }
        return n;
    }

    int count(int what) {
        if (!in(what, 0, 8)) {
            return BAD;
        }
        int bytes = 0;
        for (StringBuilder s : texts) {
            bytes += s.length();
        }
        return new int[] {row(0).size(), row(1).size(), calls()[0].length(), calls()[1].length(), bytes,
            events.size(), game().rope[23], seen.size(), finding}[what];
    }

    long digest() {
        List<Long> all = new ArrayList<>();
        for (int i = 0; i < 8; i++) {
            all.add((long) count(i));
        }
        for (int i = 0; i < 4; i++) {
            all.add((long) fault(i));
        }
        for (int b = 0; b < 24; b++) {
            all.add((long) call(0, b));
            all.add((long) call(1, b));
            for (int what = 0; what < 4; what++) {
                all.add((long) rope(b, what));
            }
        }
        for (int p = 0; p < 16; p++) {
            if (man(p) != null) {
                digestOf(p, all);
            }
        }
        for (int t = 0; t < 2; t++) {
            int[] plans = {better(t, 4, 0), better(t, 4, 1), swap(t, 0), swap(t, 1), swap(t, 2), out(t, 0), out(t, 1)};
            for (int v : plans) {
                all.add((long) v);
            }
            all.add(chance(5, t, 0));
            all.add(chance(5, t, 1));
        }
        int[] rest = {won(0), won(1), furthest(0), furthest(1), spent(), best(), level(), spare(-1), spare(0),
            never(), years(7, 18, 0), years(7, 18, 1)};
        for (int v : rest) {
            all.add((long) v);
        }
        return all.stream().reduce(17L, (h, v) -> 31 * h + v);
    }

    private void digestOf(int p, List<Long> all) {
        for (int what = 0; what < 3; what++) {
            all.add((long) puller(p, what));
        }
        for (int b : new int[] {0, 5, 12, 23}) {
            all.add((long) at(b, p, 0));
            all.add((long) at(b, p, 1));
        }
        all.add((long) done(p));
        all.add((long) was(p, 0));
        all.add((long) was(p, 1));
        all.add((long) ask(p));
    }
}
