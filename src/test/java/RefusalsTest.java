import java.util.EnumMap;
import java.util.List;
import java.util.Map;

/**
 * Every refusal of every promise, the first that fits, in the order told at each act, told to objects in three
 * states; behind each one all that can be seen is as it was (but for count() 8 behind a FINDING).
 */
public final class RefusalsTest {
    private static final int BAD = -2, NOT = -3, FULL = -4;
    private static final int NULL = 1, INDEX = 2, CAST = 3, STORE = 4, SIZE = 5;
    private static final int LEAST = Integer.MIN_VALUE, MOST = Integer.MAX_VALUE;
    private static final long LONG_BAD = -9223372036854775806L;
    private static final Checks CHECKS = new Checks("RefusalsTest");
    private static final Map<States, List<Long>> BEFORE = new EnumMap<>(States.class);

    private interface Act {
        long on(TugOfWar x);
    }

    private static States state = States.BLANK;

    public static void main(String[] args) {
        for (States s : States.values()) {
            BEFORE.put(s, States.look(s.make()));
            state = s;
            ofTexts();
            ofPullers();
            ofTeams();
            ofEvents();
            ofBeats();
            ofPlans();
            ofSeen();
            ofChances();
            ofSheets();
            ofItems();
            ofCopies();
            ofCounts();
        }
        ofWhatIsNotThere();
        ofWhatIsFull();
        ofFindings();
        ofOtherForms();
        CHECKS.end();
    }

    private static void refuse(String call, Act act, long answer, int finding) {
        TugOfWar x = state.make();
        CHECKS.due(state + ": count(8) ahead of it", x.count(8), state.finding());
        CHECKS.due(state + ": " + call, act.on(x), answer);
        CHECKS.due(state + ": count(8) behind " + call, x.count(8), finding);
        boolean alike = States.look(x).equals(BEFORE.get(state));
        CHECKS.due(state + ": is all as it was behind " + call, alike ? 1 : 0, 1);
    }

    private static void refused(String call, Act act, long answer) {
        refuse(call, act, answer, state.finding());
    }

    private static void bad(String call, Act act) {
        refused(call, act, BAD);
    }

    private static void found(String call, Act act, int finding) {
        refuse(call, act, -10 - finding, finding);
    }

    private static void ofTexts() {
        for (int v : Checks.outside(0, 3)) {
            CHECKS.sentence(2, "type: BAD, no such text");
            bad("type(" + v + ", 104)", x -> x.type(v, 104));
            bad("type(" + v + ", 256)", x -> x.type(v, 256));
            CHECKS.sentence(3, "wipe: BAD");
            bad("wipe(" + v + ")", x -> x.wipe(v));
            CHECKS.sentence(4, "undo: BAD");
            bad("undo(" + v + ")", x -> x.undo(v));
            CHECKS.sentence(5, "fault: BAD");
            bad("fault(" + v + ")", x -> x.fault(v));
        }
        CHECKS.sentence(2, "type: BAD, no byte; ahead of FULL");
        for (int v : Checks.outside(0, 255)) {
            for (int text = 0; text < 4; text++) {
                int t = text;
                bad("type(" + t + ", " + v + ")", x -> x.type(t, v));
            }
        }
    }

    private static void ofPullers() {
        for (int v : Checks.outside(0, 15)) {
            CHECKS.sentence(6, "puller: BAD, there is no such PULLER");
            bad("puller(" + v + ", 0)", x -> x.puller(v, 0));
            CHECKS.sentence(13, "at: BAD, there is no such PULLER");
            bad("at(0, " + v + ", 0)", x -> x.at(0, v, 0));
            CHECKS.sentence(16, "done: BAD");
            bad("done(" + v + ")", x -> x.done(v));
            CHECKS.sentence(27, "was: BAD, there is no such PULLER");
            bad("was(" + v + ", 0)", x -> x.was(v, 0));
            bad("was(" + v + ", 1)", x -> x.was(v, 1));
            CHECKS.sentence(28, "ask: BAD");
            bad("ask(" + v + ")", x -> x.ask(v));
        }
        for (int v : Checks.outside(0, 2)) {
            CHECKS.sentence(6, "puller: BAD, nothing to ask for");
            bad("puller(0, " + v + ")", x -> x.puller(0, v));
            bad("puller(8, " + v + ")", x -> x.puller(8, v));
        }
        for (int v : Checks.outside(0, 1)) {
            CHECKS.sentence(13, "at: BAD, nothing to ask for");
            bad("at(0, 0, " + v + ")", x -> x.at(0, 0, v));
            bad("at(0, 8, " + v + ")", x -> x.at(0, 8, v));
            CHECKS.sentence(27, "was: BAD, nothing to ask for");
            bad("was(0, " + v + ")", x -> x.was(0, v));
            bad("was(8, " + v + ")", x -> x.was(8, v));
        }
    }

    private static void ofTeams() {
        for (int v : Checks.outside(0, 1)) {
            CHECKS.sentence(7, "call: BAD, no such TEAM");
            bad("call(" + v + ", 0)", x -> x.call(v, 0));
            bad("call(" + v + ", 24)", x -> x.call(v, 24));
        }
        for (int v : Checks.outside(0, 23)) {
            CHECKS.sentence(7, "call: BAD, no such BEAT");
            bad("call(0, " + v + ")", x -> x.call(0, v));
            bad("call(1, " + v + ")", x -> x.call(1, v));
        }
        for (int v : Checks.outside(0, 9)) {
            CHECKS.sentence(8, "mud: BAD");
            bad("mud(" + v + ")", x -> x.mud(v));
        }
    }

    private static void ofEvents() {
        CHECKS.sentence(9, "event: BAD, ahead of FULL");
        for (int v : Checks.outside(0, 2)) {
            bad("event(" + v + ", 0, 0)", x -> x.event(v, 0, 0));
        }
        for (int v : Checks.outside(0, 23)) {
            for (int kind = 0; kind < 3; kind++) {
                int k = kind;
                bad("event(" + k + ", " + v + ", 0)", x -> x.event(k, v, 0));
            }
        }
        for (int v : Checks.outside(0, 15)) {
            for (int kind = 0; kind < 3; kind++) {
                int k = kind;
                bad("event(" + k + ", 0, " + v + ")", x -> x.event(k, 0, v));
            }
        }
    }

    private static void ofBeats() {
        for (int v : Checks.outside(0, 23)) {
            CHECKS.sentence(12, "rope: BAD, no such BEAT");
            bad("rope(" + v + ", 0)", x -> x.rope(v, 0));
            bad("rope(" + v + ", 3)", x -> x.rope(v, 3));
            CHECKS.sentence(13, "at: BAD, no such BEAT");
            bad("at(" + v + ", 0, 0)", x -> x.at(v, 0, 0));
            bad("at(" + v + ", 8, 1)", x -> x.at(v, 8, 1));
        }
        for (int v : Checks.outside(0, 3)) {
            CHECKS.sentence(12, "rope: BAD, nothing to ask for");
            bad("rope(0, " + v + ")", x -> x.rope(0, v));
            bad("rope(23, " + v + ")", x -> x.rope(23, v));
        }
        for (int v : Checks.outside(0, 1)) {
            CHECKS.sentence(14, "won: BAD");
            bad("won(" + v + ")", x -> x.won(v));
            CHECKS.sentence(15, "furthest: BAD");
            bad("furthest(" + v + ")", x -> x.furthest(v));
        }
    }

    private static void ofPlans() {
        for (int v : Checks.outside(0, 1)) {
            CHECKS.sentence(20, "better: BAD, no such TEAM, nothing to ask for");
            bad("better(" + v + ", 0, 0)", x -> x.better(v, 0, 0));
            bad("better(0, 0, " + v + ")", x -> x.better(0, 0, v));
            bad("better(1, 23, " + v + ")", x -> x.better(1, 23, v));
            CHECKS.sentence(21, "swap: BAD, no such TEAM");
            bad("swap(" + v + ", 0)", x -> x.swap(v, 0));
            CHECKS.sentence(22, "out: BAD, not NONE");
            bad("out(" + v + ", 0)", x -> x.out(v, 0));
            bad("out(0, " + v + ")", x -> x.out(0, v));
            bad("out(1, " + v + ")", x -> x.out(1, v));
        }
        for (int v : Checks.outside(0, 23)) {
            CHECKS.sentence(20, "better: BAD, no such BEAT");
            bad("better(0, " + v + ", 0)", x -> x.better(0, v, 0));
            bad("better(1, " + v + ", 1)", x -> x.better(1, v, 1));
        }
        for (int v : Checks.outside(0, 2)) {
            CHECKS.sentence(21, "swap: BAD, nothing to ask for, not NONE");
            bad("swap(0, " + v + ")", x -> x.swap(0, v));
            bad("swap(1, " + v + ")", x -> x.swap(1, v));
        }
        for (int v : Checks.outside(-1, 1)) {
            CHECKS.sentence(23, "spare: BAD");
            bad("spare(" + v + ")", x -> x.spare(v));
        }
    }

    private static void ofSeen() {
        CHECKS.sentence(24, "seen: BAD, ahead of FULL");
        for (int v : Checks.outside(0, 23)) {
            bad("seen(" + v + ", 12)", x -> x.seen(v, 12));
        }
        for (int v : Checks.outside(0, 24)) {
            bad("seen(0, " + v + ")", x -> x.seen(0, v));
        }
    }

    private static void ofChances() {
        CHECKS.sentence(29, "chance: BAD, as the least long and 2 more");
        for (int v : Checks.outside(0, 16)) {
            refused("chance(" + v + ", 0, 0)", x -> x.chance(v, 0, 0), LONG_BAD);
            refused("chance(" + v + ", 1, 1)", x -> x.chance(v, 1, 1), LONG_BAD);
        }
        for (int v : Checks.outside(0, 1)) {
            refused("chance(0, " + v + ", 0)", x -> x.chance(0, v, 0), LONG_BAD);
            refused("chance(16, 0, " + v + ")", x -> x.chance(16, 0, v), LONG_BAD);
        }
        CHECKS.sentence(30, "years: BAD");
        for (int v : Checks.outside(0, 24)) {
            bad("years(7, " + v + ", 0)", x -> x.years(7, v, 0));
        }
        for (int v : Checks.outside(0, 1)) {
            bad("years(7, 0, " + v + ")", x -> x.years(7, 0, v));
        }
    }

    private static void ofSheets() {
        for (int v : Checks.outside(0, 3)) {
            CHECKS.sentence(11, "read: BAD");
            bad("read(" + v + ")", x -> x.read(v));
            CHECKS.sentence(31, "sheet: BAD, no such SHEET; ahead of SIZE");
            bad("sheet(" + v + ", 0, 1)", x -> x.sheet(v, 0, 1));
            bad("sheet(" + v + ", 0, -1)", x -> x.sheet(v, 0, -1));
            CHECKS.sentence(32, "lose: BAD");
            bad("lose(" + v + ")", x -> x.lose(v));
            CHECKS.sentence(36, "write: BAD");
            bad("write(" + v + ")", x -> x.write(v));
        }
        CHECKS.sentence(31, "sheet: BAD, no such FORM; ahead of SIZE");
        for (int v : Checks.outside(0, 2)) {
            bad("sheet(0, " + v + ", 1)", x -> x.sheet(0, v, 1));
            bad("sheet(3, " + v + ", -1)", x -> x.sheet(3, v, -1));
        }
        for (int form = 0; form < 3; form++) {
            int f = form;
            CHECKS.sentence(31, "sheet: BAD, above 60");
            bad("sheet(1, " + f + ", 61)", x -> x.sheet(1, f, 61));
            bad("sheet(1, " + f + ", the most)", x -> x.sheet(1, f, MOST));
            CHECKS.sentence(31, "sheet: SIZE, below 0");
            found("sheet(1, " + f + ", -1)", x -> x.sheet(1, f, -1), SIZE);
            found("sheet(1, " + f + ", the least)", x -> x.sheet(1, f, LEAST), SIZE);
        }
    }

    /** put and get refuse alike; where put answers BAD or a FINDING, get answers the least int. */
    private static void bothBad(int s, int form, int i) {
        String with = "(" + s + ", " + form + ", " + i;
        CHECKS.sentence(33, "put: BAD; NULL; CAST; INDEX");
        bad("put" + with + ", 9)", x -> x.put(s, form, i, 9));
        CHECKS.sentence(34, "get: BAD: the least int");
        refused("get" + with + ")", x -> x.get(s, form, i), LEAST);
    }

    private static void bothFind(int s, int form, int i, int finding) {
        String with = "(" + s + ", " + form + ", " + i;
        CHECKS.sentence(33, "put: BAD; NULL; CAST; INDEX");
        found("put" + with + ", 9)", x -> x.put(s, form, i, 9), finding);
        CHECKS.sentence(34, "get: so are NULL, CAST, INDEX (count() 8 tells)");
        refuse("get" + with + ")", x -> x.get(s, form, i), LEAST, finding);
    }

    private static void ofItems() {
        for (int v : Checks.outside(0, 3)) {
            bothBad(v, 0, 0);
            bothBad(v, 3, -1);
        }
        for (int v : Checks.outside(0, 2)) {
            bothBad(0, v, 0);
            bothBad(3, v, -1);
        }
        for (int s = 0; s < 4; s++) {
            for (int form = 0; form < 3; form++) {
                boolean isLost = state == States.BLANK || state == States.BUSY && s == 3;
                int finding = isLost ? NULL : form == s % 3 ? INDEX : CAST;
                int size = isLost ? 0 : state == States.FULL ? 60 : new int[] {3, 2, 4}[s];
                bothFind(s, form, -1, finding);
                bothFind(s, form, size, finding);
                bothFind(s, form, LEAST, finding);
                bothFind(s, form, MOST, finding);
                if (finding != INDEX) {
                    bothFind(s, form, 0, finding);
                }
            }
        }
    }

    private static void ofCopies() {
        CHECKS.sentence(35, "copy: BAD: the SHEETS; ahead of NULL");
        for (int v : Checks.outside(0, 3)) {
            bad("copy(" + v + ", 0, 0, 0, 0)", x -> x.copy(v, 0, 0, 0, 0));
            bad("copy(3, 0, " + v + ", 0, 0)", x -> x.copy(3, 0, v, 0, 0));
            bad("copy(" + v + ", -1, 3, -1, -1)", x -> x.copy(v, -1, 3, -1, -1));
        }
        int[] wrong = {-1, 61, LEAST, MOST};
        int[] sheets = {0, 1, 2, 3};
        for (int s : sheets) {
            for (int t : sheets) {
                for (int n : wrong) {
                    int finding = findingOfCopy(s, t);
                    CHECKS.sentence(35, "copy: NULL: s, t; STORE; INDEX: below 0, not so many");
                    String with = "copy(" + s + ", " + t + ") with " + n;
                    found(with + " as i", x -> x.copy(s, n, t, 0, 1), finding);
                    found(with + " as j", x -> x.copy(s, 0, t, n, 1), finding);
                    found(with + " as n", x -> x.copy(s, 0, t, 0, n), finding);
                    found(with + " as i, no items", x -> x.copy(s, n, t, 0, 0), finding);
                    found(with + " as j, no items", x -> x.copy(s, 0, t, n, 0), finding);
                    found(with + " as all", x -> x.copy(s, n, t, n, n), finding);
                }
            }
        }
    }

    private static int findingOfCopy(int s, int t) {
        if (state == States.BLANK || state == States.BUSY && (s == 3 || t == 3)) {
            return NULL;
        }
        return s % 3 == t % 3 ? INDEX : STORE;
    }

    private static void ofCounts() {
        CHECKS.sentence(37, "count: BAD");
        for (int v : Checks.outside(0, 8)) {
            bad("count(" + v + ")", x -> x.count(v));
        }
    }

    private static void ofWhatIsNotThere() {
        state = States.BLANK;
        for (int text = 0; text < 4; text++) {
            int t = text;
            CHECKS.sentence(4, "undo: NOT: it is empty");
            refused("undo(" + t + ")", x -> x.undo(t), NOT);
        }
        CHECKS.sentence(10, "back: NOT: there is none");
        refused("back()", x -> x.back(), NOT);
        for (int s = 0; s < 4; s++) {
            int n = s;
            CHECKS.sentence(11, "read: NULL");
            found("read(" + n + ")", x -> x.read(n), NULL);
            CHECKS.sentence(32, "lose: NULL");
            found("lose(" + n + ")", x -> x.lose(n), NULL);
            CHECKS.sentence(36, "write: NULL");
            found("write(" + n + ")", x -> x.write(n), NULL);
        }
        ofPullersThatAreNot(0);
        ofPullersThatAreNot(8);
        state = States.BUSY;
        ofPullersThatAreNot(3);
        ofPullersThatAreNot(11);
    }

    private static void ofPullersThatAreNot(int from) {
        for (int p = from; p % 8 != 0 || p == from; p++) {
            int n = p;
            for (int w = 0; w < 3; w++) {
                int what = w;
                CHECKS.sentence(6, "puller: BAD: there is no such PULLER, too");
                bad("puller(" + n + ", " + what + ")", x -> x.puller(n, what));
            }
            CHECKS.sentence(13, "at: BAD: there is no such PULLER");
            bad("at(0, " + n + ", 0)", x -> x.at(0, n, 0));
            bad("at(23, " + n + ", 1)", x -> x.at(23, n, 1));
            CHECKS.sentence(16, "done: BAD: there is no such PULLER");
            bad("done(" + n + ")", x -> x.done(n));
            CHECKS.sentence(27, "was: BAD: there is no such PULLER");
            bad("was(" + n + ", 0)", x -> x.was(n, 0));
            bad("was(" + n + ", 1)", x -> x.was(n, 1));
            CHECKS.sentence(28, "ask: BAD: there is no such PULLER");
            bad("ask(" + n + ")", x -> x.ask(n));
        }
    }

    private static void ofWhatIsFull() {
        state = States.FULL;
        for (int text = 0; text < 4; text++) {
            int t = text;
            CHECKS.sentence(2, "type: FULL");
            refused("type(" + t + ", 112)", x -> x.type(t, 112), FULL);
            refused("type(" + t + ", 0)", x -> x.type(t, 0), FULL);
            refused("type(" + t + ", 255)", x -> x.type(t, 255), FULL);
        }
        for (int kind = 0; kind < 3; kind++) {
            int k = kind;
            CHECKS.sentence(9, "event: FULL");
            refused("event(" + k + ", 0, 0)", x -> x.event(k, 0, 0), FULL);
            refused("event(" + k + ", 23, 15)", x -> x.event(k, 23, 15), FULL);
        }
        CHECKS.sentence(24, "seen: FULL");
        refused("seen(0, 0)", x -> x.seen(0, 0), FULL);
        refused("seen(23, 24)", x -> x.seen(23, 24), FULL);
        CHECKS.sentence(11, "read: as long as each may be: none comes to 8 EVENTS");
        refused("read(0)", x -> x.read(0), 0);
    }

    /** Of one that is LOST beside others that are not. */
    private static void ofFindings() {
        state = States.BUSY;
        CHECKS.sentence(11, "read: NULL");
        found("read(3)", x -> x.read(3), NULL);
        CHECKS.sentence(32, "lose: NULL");
        found("lose(3)", x -> x.lose(3), NULL);
        CHECKS.sentence(36, "write: NULL");
        found("write(3)", x -> x.write(3), NULL);
        CHECKS.sentence(35, "copy: NULL: s, t; ahead of STORE");
        found("copy(3, 0, 0, 0, 0)", x -> x.copy(3, 0, 0, 0, 0), NULL);
        found("copy(0, 0, 3, 0, 0)", x -> x.copy(0, 0, 3, 0, 0), NULL);
        found("copy(3, 0, 3, 0, 0)", x -> x.copy(3, 0, 3, 0, 0), NULL);
    }

    private static void ofOtherForms() {
        state = States.BUSY;
        CHECKS.sentence(35, "copy: STORE: unlike FORMS");
        for (int s = 0; s < 3; s++) {
            for (int t = 0; t < 3; t++) {
                int from = s;
                int to = t;
                if (s != t) {
                    found("copy(" + s + ", 0, " + t + ", 0, 1)", x -> x.copy(from, 0, to, 0, 1), STORE);
                    found("copy(" + s + ", 0, " + t + ", 0, 0)", x -> x.copy(from, 0, to, 0, 0), STORE);
                }
            }
        }
        CHECKS.sentence(35, "copy: INDEX: not so many, by one");
        found("copy(0, 0, 0, 1, 3)", x -> x.copy(0, 0, 0, 1, 3), INDEX);
        found("copy(0, 1, 0, 0, 3)", x -> x.copy(0, 1, 0, 0, 3), INDEX);
        found("copy(0, 0, 0, 0, 4)", x -> x.copy(0, 0, 0, 0, 4), INDEX);
        found("copy(0, 4, 0, 0, 0)", x -> x.copy(0, 4, 0, 0, 0), INDEX);
        found("copy(0, 0, 0, 4, 0)", x -> x.copy(0, 0, 0, 4, 0), INDEX);
    }
}
