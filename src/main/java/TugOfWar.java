/**
 * A tug of war, as the document tells it. What is told is kept in one contest, whose course is played anew
 * at each change; a question about what would be otherwise is tried on a second contest, the trial.
 */
public final class TugOfWar {
    public static final int NONE = -1, BAD = -2, NOT = -3, FULL = -4;

    private static final int TEAMS = 2, PULLERS = 16, ROW = 8, BEATS = 24;
    private static final int TEXTS = 4, CALLS_TEXT = 2, TEAM_BYTES = 31, CALLS_BYTES = 24;
    private static final int HEAVER = 0, LIMBER = 1, ANCHOR = 2, SORTS = 3, HEAVIEST = 9;
    private static final int REST = 0, PULL = 1, HEAVE = 2, CALLS = 3;
    private static final int SLIP = 0, RAIN = 1, DOG = 2, KINDS = 3, MOST_EVENTS = 8, MOST_MUD = 9;
    private static final int MIDDLE = 12, MOST_PLACE = 24, WON_BY_0 = 22, WON_BY_1 = 2, MOST_WAY = 3;
    private static final int MOST_SEEN = 8, SIXTEENTHS = 16;
    private static final int SHEETS = 4, FORMS = 3, BYTES = 0, SHORTS = 1, MOST_ITEMS = 60, EVENT_ITEMS = 3;
    private static final int NULL = 1, INDEX = 2, CAST = 3, STORE = 4, SIZE = 5;
    private static final int[] DIGEST_BEATS = {0, 5, 12, 23};

    private final Texts texts = new Texts();
    private final Seen sights = new Seen();
    private final Sheets sheets = new Sheets();
    private int finding = 0;

    private final Contest told = new Contest();
    private final Course toldCourse = new Course();
    private final Contest trial = new Contest();
    private final Course trialCourse = new Course();
    private final Choice choice = new Choice();
    private final int[] ropeByWeight = new int[(HEAVIEST + 1) * BEATS];
    private final int[] winnerWithoutEvents = new int[1 << MOST_EVENTS];
    private boolean winnersAreFresh = false;

    public TugOfWar() {
        playTexts();
    }

    // ---- teams, calls, events

    public int type(int text, int b) {
        if (!isBelow(text, TEXTS) || !isBelow(b, 256)) {
            return BAD;
        }
        if (texts.isFull(text)) {
            return FULL;
        }
        int length = texts.append(text, b);
        playTexts();
        return length;
    }

    public int wipe(int text) {
        if (!isBelow(text, TEXTS)) {
            return BAD;
        }
        int before = texts.clear(text);
        playTexts();
        return before;
    }

    public int undo(int text) {
        if (!isBelow(text, TEXTS)) {
            return BAD;
        }
        if (texts.length(text) == 0) {
            return NOT;
        }
        int left = texts.cutLast(text);
        playTexts();
        return left;
    }

    public int fault(int text) {
        return isBelow(text, TEXTS) ? texts.firstFault(text) : BAD;
    }

    public int puller(int puller, int what) {
        if (!isPuller(puller) || !isBelow(what, 3)) {
            return BAD;
        }
        if (what == 0) {
            return told.sort[puller];
        }
        return what == 1 ? told.weight[puller] : told.wind[puller];
    }

    public int call(int team, int beat) {
        if (!isBelow(team, TEAMS) || !isBelow(beat, BEATS)) {
            return BAD;
        }
        return told.called[team * BEATS + beat];
    }

    public int mud(int v) {
        if (!isBelow(v, MOST_MUD + 1)) {
            return BAD;
        }
        int before = told.mudAtFirst;
        told.mudAtFirst = v;
        playTold();
        return before;
    }

    public int event(int kind, int beat, int number) {
        if (!Events.mayBe(kind, beat, number)) {
            return BAD;
        }
        if (told.events.size == MOST_EVENTS) {
            return FULL;
        }
        int size = told.events.append(kind, beat, number);
        playTold();
        return size;
    }

    public int back() {
        if (told.events.size == 0) {
            return NOT;
        }
        int left = told.events.cutLast();
        playTold();
        return left;
    }

    public int read(int s) {
        if (!isBelow(s, SHEETS)) {
            return BAD;
        }
        if (sheets.isLost(s)) {
            return found(NULL);
        }
        int came = 0;
        boolean goesOn = true;
        for (int i = 0; goesOn && i + EVENT_ITEMS <= sheets.size(s); i += EVENT_ITEMS) {
            goesOn = event(sheets.item(s, i), sheets.item(s, i + 1), sheets.item(s, i + 2)) > 0;
            came += goesOn ? 1 : 0;
        }
        return came;
    }

    // ---- beats

    public int rope(int beat, int what) {
        if (!isBelow(beat, BEATS) || !isBelow(what, 4)) {
            return BAD;
        }
        switch (what) {
            case 0:
                return toldCourse.rope[beat];
            case 1:
                return toldCourse.teamPull[beat];
            case 2:
                return toldCourse.teamPull[BEATS + beat];
            default:
                return toldCourse.mud[beat];
        }
    }

    public int at(int beat, int puller, int what) {
        if (!isBelow(beat, BEATS) || !isPuller(puller) || !isBelow(what, 2)) {
            return BAD;
        }
        int i = puller * BEATS + beat;
        return what == 0 ? toldCourse.pull[i] : toldCourse.breath[i];
    }

    public int won(int what) {
        if (!isBelow(what, 2)) {
            return BAD;
        }
        return what == 0 ? toldCourse.winner : toldCourse.winningBeat;
    }

    public int furthest(int what) {
        if (!isBelow(what, 2)) {
            return BAD;
        }
        int place = MIDDLE;
        for (int beat = 0; beat < BEATS; beat++) {
            int other = toldCourse.rope[beat];
            place = what == 0 ? Math.max(place, other) : Math.min(place, other);
        }
        return place;
    }

    public int done(int puller) {
        return isPuller(puller) ? pulledInAll(puller) : BAD;
    }

    public int spent() {
        int bits = 0;
        for (int p = 0; p < PULLERS; p++) {
            if (told.there[p] && toldCourse.breath[p * BEATS + BEATS - 1] == 0) {
                bits |= 1 << p;
            }
        }
        return bits;
    }

    public int best() {
        int who = NONE;
        int most = 0;
        for (int p = 0; p < PULLERS; p++) {
            int all = told.there[p] ? pulledInAll(p) : 0;
            if (all > most) {
                who = p;
                most = all;
            }
        }
        return who;
    }

    public int level() {
        int last = toldCourse.winner == NONE ? BEATS - 1 : toldCourse.winningBeat;
        int alike = 0;
        for (int beat = 0; beat < BEATS && beat <= last; beat++) {
            if (toldCourse.teamPull[beat] == toldCourse.teamPull[BEATS + beat]) {
                alike++;
            }
        }
        return alike;
    }

    // ---- plans

    public int better(int team, int beat, int what) {
        if (!isBelow(team, TEAMS) || !isBelow(beat, BEATS) || !isBelow(what, 2)) {
            return BAD;
        }
        trial.becomeLike(told);
        choice.startFor(team);
        for (int c = 0; c < CALLS; c++) {
            trial.called[team * BEATS + beat] = c;
            choice.offer(c, NONE, trialCourse.play(trial));
        }
        return what == 0 ? choice.first : choice.place;
    }

    public int swap(int team, int what) {
        if (!isBelow(team, TEAMS) || !isBelow(what, 3)) {
            return BAD;
        }
        chooseSwap(team);
        if (what == 0) {
            return choice.first;
        }
        return what == 1 ? choice.second : choice.place;
    }

    public int out(int team, int what) {
        if (!isBelow(team, TEAMS) || !isBelow(what, 2)) {
            return BAD;
        }
        chooseOut(team);
        return what == 0 ? choice.first : choice.place;
    }

    public int spare(int i) {
        if (i < NONE || i > 1) {
            return BAD;
        }
        int howMany = chooseSpare();
        if (i == NONE) {
            return howMany;
        }
        return i == 0 ? choice.first : choice.second;
    }

    // ---- seen, chance, years

    public int seen(int beat, int place) {
        if (!isBelow(beat, BEATS) || !isBelow(place, MOST_PLACE + 1)) {
            return BAD;
        }
        return sights.size == MOST_SEEN ? FULL : sights.append(beat, place);
    }

    public int forget() {
        int before = sights.size;
        sights.size = 0;
        return before;
    }

    public int never() {
        trial.becomeLike(told);
        int bits = 0;
        for (int e = 0; e < trial.events.size; e++) {
            trial.events.missing = 1 << e;
            trialCourse.play(trial);
            if (sights.fit(trialCourse)) {
                bits |= 1 << e;
            }
        }
        return bits;
    }

    public int was(int puller, int what) {
        if (!isPuller(puller) || !isBelow(what, 2)) {
            return BAD;
        }
        return what == 0 ? weightsThatFit(puller) : sortsThatFit(puller);
    }

    public int ask(int puller) {
        if (!isPuller(puller)) {
            return BAD;
        }
        int weights = weightsThatFit(puller);
        int bestBeat = 0;
        int fewest = greatestLikeness(weights, 0);
        for (int beat = 1; beat < BEATS; beat++) {
            int alike = greatestLikeness(weights, beat);
            if (alike < fewest) {
                bestBeat = beat;
                fewest = alike;
            }
        }
        return bestBeat;
    }

    public long chance(int c, int team, int what) {
        if (!isBelow(c, SIXTEENTHS + 1) || !isBelow(team, TEAMS) || !isBelow(what, 2)) {
            return Long.MIN_VALUE - BAD;
        }
        refreshWinners();
        int halvings = 4 * told.events.size;
        long above = waysToWin(c, team);
        long below = 1L << halvings;
        // All that can be in common is twos, for below is a power of 16.
        for (int i = 0; i < halvings && above % 2 == 0; i++) {
            above /= 2;
            below /= 2;
        }
        return what == 0 ? above : below;
    }

    public int years(int seed, int n, int what) {
        if (!isBelow(n, BEATS + 1) || !isBelow(what, 2)) {
            return BAD;
        }
        trial.becomeLike(told);
        int lots = seed;
        for (int beat = 0; beat < BEATS; beat++) {
            lots = 1103515245 * lots + 12345;
            trial.called[BEATS + beat] = beat < n ? (lots >>> 16) % CALLS : PULL;
        }
        int place = trialCourse.play(trial);
        return what == 0 ? place : trialCourse.winner;
    }

    // ---- sheets

    public int sheet(int s, int form, int n) {
        if (!isBelow(s, SHEETS) || !isBelow(form, FORMS) || n > MOST_ITEMS) {
            return BAD;
        }
        if (n < 0) {
            return found(SIZE);
        }
        sheets.renew(s, form, n);
        return n;
    }

    public int lose(int s) {
        if (!isBelow(s, SHEETS)) {
            return BAD;
        }
        if (sheets.isLost(s)) {
            return found(NULL);
        }
        return sheets.drop(s);
    }

    public int put(int s, int form, int i, int v) {
        if (!isBelow(s, SHEETS) || !isBelow(form, FORMS)) {
            return BAD;
        }
        int what = sheets.whatIsWrong(s, form, i);
        if (what != 0) {
            return found(what);
        }
        sheets.store(s, i, v);
        return 1;
    }

    public int get(int s, int form, int i) {
        if (!isBelow(s, SHEETS) || !isBelow(form, FORMS)) {
            return Integer.MIN_VALUE;
        }
        int what = sheets.whatIsWrong(s, form, i);
        if (what != 0) {
            found(what);
            return Integer.MIN_VALUE;
        }
        return sheets.item(s, i);
    }

    public int copy(int s, int i, int t, int j, int n) {
        if (!isBelow(s, SHEETS) || !isBelow(t, SHEETS)) {
            return BAD;
        }
        if (sheets.isLost(s) || sheets.isLost(t)) {
            return found(NULL);
        }
        if (!sheets.areAlike(s, t)) {
            return found(STORE);
        }
        if (n < 0 || !sheets.holds(s, i, n) || !sheets.holds(t, j, n)) {
            return found(INDEX);
        }
        sheets.move(s, i, t, j, n);
        return 1;
    }

    public int write(int s) {
        if (!isBelow(s, SHEETS)) {
            return BAD;
        }
        if (sheets.isLost(s)) {
            return found(NULL);
        }
        int n = Math.min(BEATS, sheets.size(s));
        for (int beat = 0; beat < n; beat++) {
            sheets.store(s, beat, toldCourse.rope[beat]);
        }
        return n;
    }

    public int count(int what) {
        switch (what) {
            case 0:
            case 1:
                return told.size[what];
            case 2:
            case 3:
                return texts.soundLength(what);
            case 4:
                return texts.lengthOfAll();
            case 5:
                return told.events.size;
            case 6:
                return toldCourse.rope[BEATS - 1];
            case 7:
                return sights.size;
            case 8:
                return finding;
            default:
                return BAD;
        }
    }

    public long digest() {
        long h = 17;
        for (int what = 0; what < 8; what++) {
            h = 31 * h + count(what);
        }
        for (int text = 0; text < TEXTS; text++) {
            h = 31 * h + fault(text);
        }
        for (int beat = 0; beat < BEATS; beat++) {
            h = withBeat(h, beat);
        }
        for (int p = 0; p < PULLERS; p++) {
            if (isPuller(p)) {
                h = withPuller(h, p);
            }
        }
        for (int team = 0; team < TEAMS; team++) {
            h = withTeam(h, team);
        }
        h = 31 * h + won(0);
        h = 31 * h + won(1);
        h = 31 * h + furthest(0);
        h = 31 * h + furthest(1);
        h = 31 * h + spent();
        h = 31 * h + best();
        h = 31 * h + level();
        h = 31 * h + spare(NONE);
        h = 31 * h + spare(0);
        h = 31 * h + never();
        h = 31 * h + years(7, 18, 0);
        return 31 * h + years(7, 18, 1);
    }

    // ---- of digest

    private long withBeat(long before, int beat) {
        long h = before;
        h = 31 * h + call(0, beat);
        h = 31 * h + call(1, beat);
        for (int what = 0; what < 4; what++) {
            h = 31 * h + rope(beat, what);
        }
        return h;
    }

    private long withPuller(long before, int p) {
        long h = before;
        for (int what = 0; what < 3; what++) {
            h = 31 * h + puller(p, what);
        }
        for (int beat : DIGEST_BEATS) {
            h = 31 * h + at(beat, p, 0);
            h = 31 * h + at(beat, p, 1);
        }
        h = 31 * h + done(p);
        h = 31 * h + was(p, 0);
        h = 31 * h + was(p, 1);
        return 31 * h + ask(p);
    }

    private long withTeam(long before, int team) {
        long h = before;
        h = 31 * h + better(team, 4, 0);
        h = 31 * h + better(team, 4, 1);
        for (int what = 0; what < 3; what++) {
            h = 31 * h + swap(team, what);
        }
        h = 31 * h + out(team, 0);
        h = 31 * h + out(team, 1);
        h = 31 * h + chance(5, team, 0);
        return 31 * h + chance(5, team, 1);
    }

    // ---- what is told, and what would be otherwise

    private static boolean isBelow(int n, int bound) {
        return n >= 0 && n < bound;
    }

    private boolean isPuller(int puller) {
        return isBelow(puller, PULLERS) && told.there[puller];
    }

    private int found(int number) {
        finding = number;
        return -10 - number;
    }

    private void playTexts() {
        told.takeTexts(texts);
        playTold();
    }

    private void playTold() {
        toldCourse.play(told);
        winnersAreFresh = false;
    }

    private int pulledInAll(int p) {
        int all = 0;
        for (int beat = 0; beat < BEATS; beat++) {
            all += toldCourse.pull[p * BEATS + beat];
        }
        return all;
    }

    // ---- of plans

    private void chooseSwap(int team) {
        trial.becomeLike(told);
        choice.startFor(team);
        int first = team * ROW;
        int end = first + told.size[team];
        for (int p = first; p < end; p++) {
            for (int q = p + 1; q < end; q++) {
                // Of places in the row none but the last one tells: q leaves it to p, if q had it.
                trial.last[team] = q == end - 1 ? p : end - 1;
                choice.offer(p, q, trialCourse.play(trial));
            }
        }
    }

    private void chooseOut(int team) {
        choice.startFor(team);
        int first = team * ROW;
        int end = first + told.size[team];
        for (int p = first; p < end; p++) {
            trial.becomeLike(told);
            trial.leaveOut(p, team);
            choice.offer(p, NONE, trialCourse.play(trial));
        }
    }

    /** How many EVENTS had better not be, or NONE; the choice has which. */
    private int chooseSpare() {
        choice.startFor(0);
        if (toldCourse.winner != 1) {
            return 0;
        }
        trial.becomeLike(told);
        int size = trial.events.size;
        for (int e = 0; e < size; e++) {
            if (winnerWithout(1 << e) != 1) {
                choice.first = e;
                return 1;
            }
        }
        for (int e = 0; e < size; e++) {
            for (int f = e + 1; f < size; f++) {
                if (winnerWithout(1 << e | 1 << f) != 1) {
                    choice.first = e;
                    choice.second = f;
                    return 2;
                }
            }
        }
        return NONE;
    }

    private int winnerWithout(int missing) {
        trial.events.missing = missing;
        trialCourse.play(trial);
        return trialCourse.winner;
    }

    // ---- of what was seen, and of chances

    /** WEIGHTS, as bits; where the ROPE goes by each of them stays in ropeByWeight. */
    private int weightsThatFit(int puller) {
        trial.becomeLike(told);
        int bits = 0;
        for (int weight = 1; weight <= HEAVIEST; weight++) {
            trial.weight[puller] = weight;
            trialCourse.play(trial);
            for (int beat = 0; beat < BEATS; beat++) {
                ropeByWeight[weight * BEATS + beat] = trialCourse.rope[beat];
            }
            if (sights.fit(trialCourse)) {
                bits |= 1 << weight;
            }
        }
        return bits;
    }

    private int sortsThatFit(int puller) {
        trial.becomeLike(told);
        int bits = 0;
        for (int sort = 0; sort < SORTS; sort++) {
            trial.sort[puller] = sort;
            trialCourse.play(trial);
            if (sights.fit(trialCourse)) {
                bits |= 1 << sort;
            }
        }
        return bits;
    }

    /** The greatest number of these weights that leave the ROPE at one place behind a BEAT. */
    private int greatestLikeness(int weights, int beat) {
        int greatest = 0;
        for (int weight = 1; weight <= HEAVIEST; weight++) {
            int alike = 0;
            for (int other = 1; other <= HEAVIEST; other++) {
                boolean both = (weights >> weight & weights >> other & 1) != 0;
                if (both && ropeByWeight[weight * BEATS + beat] == ropeByWeight[other * BEATS + beat]) {
                    alike++;
                }
            }
            greatest = Math.max(greatest, alike);
        }
        return greatest;
    }

    /** The chance that a TEAM has WON, in parts of 16 to the power of the number of EVENTS. */
    private long waysToWin(int c, int team) {
        long ways = 0;
        for (int missing = 0; missing < 1 << told.events.size; missing++) {
            if (winnerWithoutEvents[missing] == team) {
                ways += waysToMiss(c, missing);
            }
        }
        return ways;
    }

    private long waysToMiss(int c, int missing) {
        long ways = 1;
        for (int e = 0; e < told.events.size; e++) {
            ways *= (missing >> e & 1) != 0 ? SIXTEENTHS - c : c;
        }
        return ways;
    }

    /** Who wins does not depend on c, so that other chances of the same EVENTS need no new courses. */
    private void refreshWinners() {
        if (!winnersAreFresh) {
            trial.becomeLike(told);
            for (int missing = 0; missing < 1 << trial.events.size; missing++) {
                trial.events.missing = missing;
                trialCourse.play(trial);
                winnerWithoutEvents[missing] = trialCourse.winner;
            }
            winnersAreFresh = true;
        }
    }

    /** The texts of both TEAMS, and of what is called to them. */
    private static final class Texts {
        private final int[] bytes = new int[TEXTS * TEAM_BYTES];
        private final int[] lengths = new int[TEXTS];

        boolean isFull(int text) {
            return lengths[text] >= (text < CALLS_TEXT ? TEAM_BYTES : CALLS_BYTES);
        }

        int append(int text, int b) {
            bytes[text * TEAM_BYTES + lengths[text]] = b;
            lengths[text]++;
            return lengths[text];
        }

        int clear(int text) {
            int before = lengths[text];
            lengths[text] = 0;
            return before;
        }

        int cutLast(int text) {
            lengths[text]--;
            return lengths[text];
        }

        int length(int text) {
            return lengths[text];
        }

        int lengthOfAll() {
            int all = 0;
            for (int text = 0; text < TEXTS; text++) {
                all += lengths[text];
            }
            return all;
        }

        /** With a FAULT a text is as if it was empty. */
        int soundLength(int text) {
            return firstFault(text) == NONE ? lengths[text] : 0;
        }

        int byteAt(int text, int i) {
            return bytes[text * TEAM_BYTES + i];
        }

        /** A ninth PULLER needs no look: it would begin behind the last byte that a text can have. */
        int firstFault(int text) {
            int length = lengths[text];
            for (int i = 0; i < length; i++) {
                int b = byteAt(text, i);
                if (text < CALLS_TEXT ? !teamGoesOn(i % 4, b) : callOf(b) == NONE) {
                    return i;
                }
            }
            boolean isEnded = text >= CALLS_TEXT || length == 0 || length % 4 == 3;
            return isEnded ? NONE : length;
        }

        private static boolean teamGoesOn(int placeInPuller, int b) {
            switch (placeInPuller) {
                case 0:
                    return b == 'h' || b == 'l' || b == 'a';
                case 3:
                    return b == ';';
                default:
                    return b >= '1' && b <= '9';
            }
        }

        static int sortOf(int b) {
            switch (b) {
                case 'h':
                    return HEAVER;
                case 'l':
                    return LIMBER;
                case 'a':
                    return ANCHOR;
                default:
                    return NONE;
            }
        }

        static int callOf(int b) {
            switch (b) {
                case 'r':
                    return REST;
                case 'p':
                    return PULL;
                case 'h':
                    return HEAVE;
                default:
                    return NONE;
            }
        }
    }

    /** EVENTS as told; a trial may take some of them not to be. */
    private static final class Events {
        final int[] kinds = new int[MOST_EVENTS];
        final int[] beats = new int[MOST_EVENTS];
        final int[] numbers = new int[MOST_EVENTS];
        int size = 0;

        /** Which are taken not to be, as bits. */
        int missing = 0;

        static boolean mayBe(int kind, int beat, int number) {
            return isBelow(kind, KINDS) && isBelow(beat, BEATS) && isBelow(number, PULLERS);
        }

        int append(int kind, int beat, int number) {
            kinds[size] = kind;
            beats[size] = beat;
            numbers[size] = number;
            size++;
            return size;
        }

        int cutLast() {
            size--;
            return size;
        }

        void takeFrom(Events other) {
            System.arraycopy(other.kinds, 0, kinds, 0, MOST_EVENTS);
            System.arraycopy(other.beats, 0, beats, 0, MOST_EVENTS);
            System.arraycopy(other.numbers, 0, numbers, 0, MOST_EVENTS);
            size = other.size;
            missing = other.missing;
        }

        boolean happens(int e, int beat) {
            return beats[e] == beat && (missing >> e & 1) == 0;
        }
    }

    /** Where the ROPE was SEEN. */
    private static final class Seen {
        private final int[] beats = new int[MOST_SEEN];
        private final int[] places = new int[MOST_SEEN];
        int size = 0;

        int append(int beat, int place) {
            beats[size] = beat;
            places[size] = place;
            size++;
            return size;
        }

        boolean fit(Course course) {
            for (int i = 0; i < size; i++) {
                if (course.rope[beats[i]] != places[i]) {
                    return false;
                }
            }
            return true;
        }
    }

    /** What the course of the ROPE comes from: as it is told, or as a question has it otherwise. */
    private static final class Contest {
        final boolean[] there = new boolean[PULLERS];
        final int[] sort = new int[PULLERS];
        final int[] weight = new int[PULLERS];
        final int[] wind = new int[PULLERS];
        final int[] size = new int[TEAMS];
        final int[] last = new int[TEAMS];
        final int[] called = new int[TEAMS * BEATS];
        final Events events = new Events();
        int mudAtFirst = 0;

        void takeTexts(Texts texts) {
            for (int team = 0; team < TEAMS; team++) {
                takeTeam(texts, team);
                takeCalls(texts, team);
            }
        }

        private void takeTeam(Texts texts, int team) {
            // Each PULLER has three bytes, and all but the last one a fourth behind them.
            size[team] = (texts.soundLength(team) + 1) / 4;
            last[team] = team * ROW + size[team] - 1;
            for (int i = 0; i < ROW; i++) {
                int p = team * ROW + i;
                there[p] = i < size[team];
                if (there[p]) {
                    sort[p] = Texts.sortOf(texts.byteAt(team, 4 * i));
                    weight[p] = texts.byteAt(team, 4 * i + 1) - '0';
                    wind[p] = texts.byteAt(team, 4 * i + 2) - '0';
                }
            }
        }

        private void takeCalls(Texts texts, int team) {
            int text = CALLS_TEXT + team;
            int length = texts.soundLength(text);
            for (int beat = 0; beat < BEATS; beat++) {
                called[team * BEATS + beat] = beat < length ? Texts.callOf(texts.byteAt(text, beat)) : PULL;
            }
        }

        void becomeLike(Contest other) {
            for (int p = 0; p < PULLERS; p++) {
                there[p] = other.there[p];
                sort[p] = other.sort[p];
                weight[p] = other.weight[p];
                wind[p] = other.wind[p];
            }
            System.arraycopy(other.size, 0, size, 0, TEAMS);
            System.arraycopy(other.last, 0, last, 0, TEAMS);
            System.arraycopy(other.called, 0, called, 0, TEAMS * BEATS);
            events.takeFrom(other.events);
            mudAtFirst = other.mudAtFirst;
        }

        /** If it was the last one, the one ahead of it is the last of its TEAM. */
        void leaveOut(int p, int team) {
            there[p] = false;
            if (last[team] == p) {
                last[team] = p - 1;
            }
        }
    }

    /** What comes of a contest, BEAT by BEAT; rows of several TEAMS or PULLERS hold one behind the other. */
    private static final class Course {
        final int[] rope = new int[BEATS];
        final int[] mud = new int[BEATS];
        final int[] teamPull = new int[TEAMS * BEATS];
        final int[] pull = new int[PULLERS * BEATS];
        final int[] breath = new int[PULLERS * BEATS];
        int winner = NONE;
        int winningBeat = NONE;

        private final int[] breathNow = new int[PULLERS];
        private int place = MIDDLE;
        private int mudNow = 0;
        private int slippingNow = 0;
        private boolean dogNow = false;

        /** Where the ROPE is at the end. */
        int play(Contest contest) {
            winner = NONE;
            winningBeat = NONE;
            place = MIDDLE;
            mudNow = contest.mudAtFirst;
            System.arraycopy(contest.wind, 0, breathNow, 0, PULLERS);
            for (int beat = 0; beat < BEATS; beat++) {
                meetEvents(contest.events, beat);
                boolean goesOn = winner == NONE;
                int up = goesOn ? pullOfTeam(contest, 0, beat) : 0;
                int down = goesOn ? pullOfTeam(contest, 1, beat) : 0;
                if (goesOn) {
                    moveRope(up - down, beat);
                } else {
                    standStill(beat);
                }
                rope[beat] = place;
                mud[beat] = mudNow;
                teamPull[beat] = up;
                teamPull[BEATS + beat] = down;
            }
            return place;
        }

        private void meetEvents(Events events, int beat) {
            slippingNow = 0;
            dogNow = false;
            for (int e = 0; e < events.size; e++) {
                if (events.happens(e, beat)) {
                    int kind = events.kinds[e];
                    if (kind == SLIP) {
                        slippingNow |= 1 << events.numbers[e];
                    } else if (kind == RAIN) {
                        mudNow = Math.min(MOST_MUD, mudNow + 1);
                    } else if (kind == DOG) {
                        dogNow = true;
                    }
                }
            }
        }

        private int pullOfTeam(Contest contest, int team, int beat) {
            int call = dogNow ? REST : contest.called[team * BEATS + beat];
            int all = 0;
            for (int p = team * ROW; p < team * ROW + ROW; p++) {
                if (contest.there[p]) {
                    boolean slips = (slippingNow >> p & 1) != 0;
                    int force = slips ? 0 : forceOf(contest, p, call);
                    int taken = contest.sort[p] == ANCHOR ? 0 : mudNow;
                    pull[p * BEATS + beat] = Math.max(0, force - taken);
                    breath[p * BEATS + beat] = breathNow[p];
                    all += pull[p * BEATS + beat];
                }
            }
            return all;
        }

        /** By how much it pulls or HOLDS before MUD is taken; its BREATH becomes what it has behind that. */
        private int forceOf(Contest contest, int p, int call) {
            int sort = contest.sort[p];
            boolean isLastAnchor = sort == ANCHOR && p == (p < ROW ? contest.last[0] : contest.last[1]);
            if (call == REST && isLastAnchor) {
                return contest.weight[p];
            }
            if (call == REST) {
                breathNow[p] = Math.min(contest.wind[p], breathNow[p] + (sort == LIMBER ? 2 : 1));
                return 0;
            }
            if (breathNow[p] == 0) {
                return 0;
            }
            int cost = sort == HEAVER ? 1 : 2;
            boolean heaves = call == HEAVE && breathNow[p] >= cost;
            breathNow[p] -= heaves ? cost : 1;
            return (heaves ? 2 : 1) * contest.weight[p] + (isLastAnchor ? 2 : 0);
        }

        private void moveRope(int difference, int beat) {
            place += Math.max(-MOST_WAY, Math.min(MOST_WAY, difference / 3));
            if (place >= WON_BY_0) {
                winner = 0;
                winningBeat = beat;
            } else if (place <= WON_BY_1) {
                winner = 1;
                winningBeat = beat;
            }
        }

        private void standStill(int beat) {
            for (int p = 0; p < PULLERS; p++) {
                pull[p * BEATS + beat] = 0;
                breath[p * BEATS + beat] = breathNow[p];
            }
        }
    }

    /** The first of those offered by which the ROPE is furthest to a TEAM. */
    private static final class Choice {
        int first = NONE;
        int second = NONE;
        int place = NONE;
        private int team = 0;

        void startFor(int whichTeam) {
            team = whichTeam;
            first = NONE;
            second = NONE;
            place = NONE;
        }

        void offer(int one, int other, int itsPlace) {
            boolean isFurther = team == 0 ? itsPlace > place : itsPlace < place;
            if (first == NONE || isFurther) {
                first = one;
                second = other;
                place = itsPlace;
            }
        }
    }

    /** Rows of items; the callers have looked at what is wrong before they take or store one. */
    private static final class Sheets {
        private static final int LOST = -1;
        private final int[] items = new int[SHEETS * MOST_ITEMS];
        private final int[] forms = new int[SHEETS];
        private final int[] sizes = {LOST, LOST, LOST, LOST};

        boolean isLost(int s) {
            return sizes[s] == LOST;
        }

        int size(int s) {
            return sizes[s];
        }

        void renew(int s, int form, int n) {
            forms[s] = form;
            sizes[s] = n;
            for (int i = 0; i < n; i++) {
                items[s * MOST_ITEMS + i] = 0;
            }
        }

        int drop(int s) {
            int before = sizes[s];
            sizes[s] = LOST;
            return before;
        }

        /** The number of the FINDING that keeps item i, as of a FORM, from being used; 0: none does. */
        int whatIsWrong(int s, int form, int i) {
            if (isLost(s)) {
                return NULL;
            }
            if (forms[s] != form) {
                return CAST;
            }
            return isBelow(i, sizes[s]) ? 0 : INDEX;
        }

        boolean areAlike(int s, int t) {
            return forms[s] == forms[t];
        }

        boolean holds(int s, int i, int n) {
            return i >= 0 && i <= sizes[s] && n <= sizes[s] - i;
        }

        int item(int s, int i) {
            return items[s * MOST_ITEMS + i];
        }

        void store(int s, int i, int v) {
            int kept = v;
            if (forms[s] == BYTES) {
                kept = (byte) v;
            } else if (forms[s] == SHORTS) {
                kept = (short) v;
            }
            items[s * MOST_ITEMS + i] = kept;
        }

        void move(int s, int i, int t, int j, int n) {
            System.arraycopy(items, s * MOST_ITEMS + i, items, t * MOST_ITEMS + j, n);
        }
    }
}
