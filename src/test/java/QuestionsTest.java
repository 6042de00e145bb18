import java.util.ArrayList;
import java.util.EnumMap;
import java.util.List;
import java.util.Map;
import java.util.Random;
import java.util.function.Supplier;

/**
 * A question that is answered changes nothing, in any of three states, and is answered alike when asked again, or
 * behind any other questions.
 */
public final class QuestionsTest {
    private static final Checks CHECKS = new Checks("QuestionsTest");
    private static final Map<States, List<Long>> BEFORE = new EnumMap<>(States.class);
    private static final List<Question> ASKED = new ArrayList<>();

    private interface Act {
        long on(TugOfWar x);
    }

    private record Question(String call, Act act) { }

    public static void main(String[] args) {
        for (States s : States.values()) {
            BEFORE.put(s, States.look(s.make()));
        }
        aboutWhatIsTold();
        aboutBeats();
        aboutPlans();
        aboutWhatWasSeen();
        aboutChances();
        aboutSheets();
        newObjectsShareNothing();
        inAnyOrder(States.BLANK::make);
        inAnyOrder(States.BUSY::make);
        inAnyOrder(States.FULL::make);
        inAnyOrder(() -> uneven(0));
        inAnyOrder(() -> uneven(1));
        CHECKS.end();
    }

    private static void ask(String call, Act act) {
        ASKED.add(new Question(call, act));
        for (States state : States.values()) {
            TugOfWar x = state.make();
            long answer = act.on(x);
            CHECKS.due(state + ": " + call + ", asked again", act.on(x), answer);
            CHECKS.due(state + ": count(8) behind " + call, x.count(8), state.finding());
            boolean alike = States.look(x).equals(BEFORE.get(state));
            CHECKS.due(state + ": is all as it was behind " + call, alike ? 1 : 0, 1);
        }
    }

    private static void aboutWhatIsTold() {
        for (int i = 0; i < 4; i++) {
            int n = i;
            CHECKS.promise(5, "fault");
            ask("fault(" + n + ")", x -> x.fault(n));
            CHECKS.promise(6, "puller");
            ask("puller(8, " + n + ")", x -> x.puller(8, n));
            CHECKS.promise(7, "call");
            ask("call(0, " + n + ")", x -> x.call(0, n));
            ask("call(1, " + (23 - n) + ")", x -> x.call(1, 23 - n));
        }
    }

    private static void aboutBeats() {
        for (int w = 0; w < 4; w++) {
            int what = w;
            CHECKS.promise(12, "rope");
            ask("rope(0, " + what + ")", x -> x.rope(0, what));
            ask("rope(23, " + what + ")", x -> x.rope(23, what));
            CHECKS.promise(13, "at");
            ask("at(0, 0, " + what + ")", x -> x.at(0, 0, what));
            ask("at(23, 8, " + what + ")", x -> x.at(23, 8, what));
            CHECKS.promise(14, "won");
            ask("won(" + what + ")", x -> x.won(what));
            CHECKS.promise(15, "furthest");
            ask("furthest(" + what + ")", x -> x.furthest(what));
            CHECKS.promise(16, "done");
            ask("done(" + what + ")", x -> x.done(what));
        }
        CHECKS.promise(17, "spent");
        ask("spent()", x -> x.spent());
        CHECKS.promise(18, "best");
        ask("best()", x -> x.best());
        CHECKS.promise(19, "level");
        ask("level()", x -> x.level());
    }

    private static void aboutPlans() {
        for (int t = 0; t < 2; t++) {
            for (int w = 0; w < 3; w++) {
                int team = t;
                int what = w;
                CHECKS.promise(20, "better");
                ask("better(" + team + ", 0, " + what + ")", x -> x.better(team, 0, what));
                ask("better(" + team + ", 23, " + what + ")", x -> x.better(team, 23, what));
                CHECKS.promise(21, "swap");
                ask("swap(" + team + ", " + what + ")", x -> x.swap(team, what));
                CHECKS.promise(22, "out");
                ask("out(" + team + ", " + what + ")", x -> x.out(team, what));
                CHECKS.promise(23, "spare");
                ask("spare(" + (what - 1) + ")", x -> x.spare(what - 1));
            }
        }
    }

    private static void aboutWhatWasSeen() {
        CHECKS.promise(26, "never");
        ask("never()", x -> x.never());
        for (int p = 0; p < 16; p++) {
            int n = p;
            CHECKS.promise(27, "was");
            ask("was(" + n + ", 0)", x -> x.was(n, 0));
            ask("was(" + n + ", 1)", x -> x.was(n, 1));
            CHECKS.promise(28, "ask");
            ask("ask(" + n + ")", x -> x.ask(n));
        }
    }

    private static void aboutChances() {
        for (int t = 0; t < 2; t++) {
            int n = t;
            CHECKS.promise(29, "chance");
            ask("chance(0, " + n + ", 0)", x -> x.chance(0, n, 0));
            ask("chance(7, " + n + ", 1)", x -> x.chance(7, n, 1));
            ask("chance(16, " + n + ", 1)", x -> x.chance(16, n, 1));
            CHECKS.promise(30, "years");
            ask("years(3, 0, " + n + ")", x -> x.years(3, 0, n));
            ask("years(-3, 24, " + n + ")", x -> x.years(-3, 24, n));
        }
    }

    private static void aboutSheets() {
        CHECKS.promise(37, "count");
        for (int w = 0; w < 9; w++) {
            int what = w;
            ask("count(" + what + ")", x -> x.count(what));
        }
        CHECKS.promise(38, "digest");
        ask("digest()", x -> x.digest());
        CHECKS.promise(34, "get");
        TugOfWar x = States.BUSY.make();
        CHECKS.due("get(0, 0, 0)", x.get(0, 0, 0), 2);
        CHECKS.due("get(0, 0, 0), asked again", x.get(0, 0, 0), 2);
        CHECKS.due("count(8)", x.count(8), States.BUSY.finding());
        CHECKS.due("is all as it was", States.look(x).equals(BEFORE.get(States.BUSY)) ? 1 : 0, 1);
    }

    private static void newObjectsShareNothing() {
        CHECKS.promise(1, "a new object, whatever others were told");
        TugOfWar first = new TugOfWar();
        TugOfWar full = States.FULL.make();
        TugOfWar last = new TugOfWar();
        full.mud(9);
        CHECKS.due("is one made ahead of another as new", States.look(first).equals(BEFORE.get(States.BLANK)) ? 1 : 0, 1);
        CHECKS.due("is one made behind another as new", States.look(last).equals(BEFORE.get(States.BLANK)) ? 1 : 0, 1);
    }

    /** One TEAM has two to change places, the other one has one or none; TEAM 1 has WON by two EVENTS. */
    private static TugOfWar uneven(int one) {
        TugOfWar x = one == 0 ? Checks.teams("h99", "h99;h93") : Checks.teams("h99;a12", "");
        x.event(0, 4, 0);
        x.event(0, 5, 0);
        x.seen(1, x.rope(1, 0));
        return x;
    }

    private static void inAnyOrder(Supplier<TugOfWar> made) {
        CHECKS.promise(0, "questions in any order");
        List<Long> due = new ArrayList<>();
        for (Question q : ASKED) {
            due.add(q.act().on(made.get()));
        }
        Random random = new Random(512);
        for (int run = 0; run < 60; run++) {
            TugOfWar x = made.get();
            String before = "the first";
            for (int n = 0; n < 300; n++) {
                int i = random.nextInt(ASKED.size());
                String call = ASKED.get(i).call();
                CHECKS.due(call + " behind " + before, ASKED.get(i).act().on(x), due.get(i));
                before = call;
            }
        }
    }
}
