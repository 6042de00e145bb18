/** Promises 20 to 23: what had better have been otherwise. */
public final class PlansTest {
    private static final String ALL_REST = "rrrrrrrrrrrrrrrrrrrrrrrr";
    private static final Checks CHECKS = new Checks("PlansTest");

    public static void main(String[] args) {
        better();
        swap();
        swapKeepsNumbers();
        out();
        spare();
        CHECKS.end();
    }

    private static void due(String call, long got, long want) {
        CHECKS.due(call, got, want);
    }

    private static void better(TugOfWar x, int team, int beat, int which, int place) {
        due("better(" + team + ", " + beat + ", 0)", x.better(team, beat, 0), which);
        due("better(" + team + ", " + beat + ", 1)", x.better(team, beat, 1), place);
    }

    private static void better() {
        CHECKS.promise(20, "better");
        better(Checks.teams("h22", ""), 0, 0, 2, 13);
        better(Checks.teams("", "h22"), 1, 0, 2, 11);
        better(Checks.teams("h22", ""), 1, 0, 0, 12);
        // By rest, pull or heave it pulls 9 or more once: of like ones the least.
        better(Checks.teams("h91", ""), 0, 0, 0, 15);
        better(Checks.teams("h91", "", ALL_REST, ""), 0, 23, 1, 15);
        better(Checks.teams("", "h91", "", ALL_REST), 1, 23, 1, 9);
        better(Checks.teams("h91", "", ALL_REST, "x"), 0, 12, 1, 15);
        TugOfWar x = Checks.teams("h22", "", "p", "");
        x.event(2, 0, 0);
        better(x, 0, 0, 0, 12);
        better(x, 0, 1, 2, 13);
        due("it is still as told", x.call(0, 1), 1);
        due("and so is the rope", x.rope(23, 0), 12);
        due("better(-1, 0, 0)", x.better(-1, 0, 0), TugOfWar.BAD);
        due("better(2, 0, 0)", x.better(2, 0, 0), TugOfWar.BAD);
        due("better(0, -1, 0)", x.better(0, -1, 0), TugOfWar.BAD);
        due("better(0, 24, 0)", x.better(0, 24, 0), TugOfWar.BAD);
        due("better(0, 0, -1)", x.better(0, 0, -1), TugOfWar.BAD);
        due("better(0, 0, 2)", x.better(0, 0, 2), TugOfWar.BAD);
    }

    private static void swap(TugOfWar x, int team, int first, int other, int place) {
        due("swap(" + team + ", 0)", x.swap(team, 0), first);
        due("swap(" + team + ", 1)", x.swap(team, 1), other);
        due("swap(" + team + ", 2)", x.swap(team, 2), place);
    }

    private static void swap() {
        CHECKS.promise(21, "swap");
        TugOfWar x = Checks.teams("a21;h11;h11", "h11");
        due("rope(23, 0)", x.rope(23, 0), 13);
        swap(x, 0, 0, 1, 13);
        swap(Checks.teams("a21;h11;h11", ""), 0, 0, 2, 14);
        swap(Checks.teams("", "a21;h11;h11"), 1, 8, 10, 10);
        swap(Checks.teams("h11;h11", ""), 0, 0, 1, 12);
        swap(Checks.teams("h11;a11;h11;h11", ""), 0, 1, 3, 14);
        // One that is an anchor at the end had better stay there.
        swap(Checks.teams("h11;h11;a21", ""), 0, 0, 1, 14);
        swap(Checks.teams("h11;a41", ""), 0, 0, 1, 13);
        swap(Checks.teams("h11", "h11;h11"), 0, -1, -1, -1);
        swap(new TugOfWar(), 1, -1, -1, -1);
        swap(Checks.teams("h11;h11;h11;h11;h11;h11;h11;a21", ""), 0, 0, 1, 15);
        swap(Checks.teams("a21;h11;h11;h11;h11;h11;h11;a11", "h41"), 0, 0, 1, 14);
        due("swap(-1, 0)", x.swap(-1, 0), TugOfWar.BAD);
        due("swap(2, 0)", x.swap(2, 0), TugOfWar.BAD);
        due("swap(0, -1)", x.swap(0, -1), TugOfWar.BAD);
        due("swap(0, 3)", x.swap(0, 3), TugOfWar.BAD);
        due("swap(1, 3) of one", x.swap(1, 3), TugOfWar.BAD);
    }

    private static void swapKeepsNumbers() {
        // Number 1 slips at its new place: the anchor, then at the end, pulls by 4 on beat 0.
        TugOfWar x = Checks.teams("a21;h11", "", "prrrrrrrrrrrrrrrrrrrrrrr", "");
        x.event(0, 0, 1);
        swap(x, 0, 0, 1, 13);
        due("it is still as told", x.puller(0, 0), 2);
        due("rope(23, 0)", x.rope(23, 0), 12);
        // An anchor that was the last of eight is so no longer, even if team 1 is empty.
        TugOfWar y = Checks.teams("a21;h11;h11;h11;h11;h11;h11;a11", "");
        y.mud(9);
        swap(y, 0, 0, 1, 13);
    }

    private static void out(TugOfWar x, int team, int which, int place) {
        due("out(" + team + ", 0)", x.out(team, 0), which);
        due("out(" + team + ", 1)", x.out(team, 1), place);
    }

    private static void out() {
        CHECKS.promise(22, "out");
        out(Checks.teams("h11;h11", ""), 0, 0, 12);
        out(Checks.teams("h91;h11", ""), 0, 1, 15);
        out(Checks.teams("", "h11;h91;h11"), 1, 8, 9);
        // Without the last one the anchor is the last, and pulls by 4.
        out(Checks.teams("a21;h11", ""), 0, 1, 13);
        out(Checks.teams("", "a21;h11"), 1, 9, 11);
        out(Checks.teams("h91", ""), 0, 0, 12);
        out(Checks.teams("", "h91"), 1, 8, 12);
        out(Checks.teams("h91", ""), 1, -1, -1);
        // The others keep their numbers: 1 slips, whether 0 is there or not.
        TugOfWar x = Checks.teams("h21;h91;h31", "", "prrrrrrrrrrrrrrrrrrrrrrr", "");
        x.event(0, 0, 1);
        out(x, 0, 0, 13);
        due("they are all there still", x.count(0), 3);
        due("out(-1, 0)", x.out(-1, 0), TugOfWar.BAD);
        due("out(2, 0)", x.out(2, 0), TugOfWar.BAD);
        due("out(0, -1)", x.out(0, -1), TugOfWar.BAD);
        due("out(0, 2)", x.out(0, 2), TugOfWar.BAD);
        due("out(1, 2) of none", x.out(1, 2), TugOfWar.BAD);
    }

    private static void spare(TugOfWar x, int howMany, int first, int second) {
        due("spare(-1)", x.spare(TugOfWar.NONE), howMany);
        due("spare(0)", x.spare(0), first);
        due("spare(1)", x.spare(1), second);
    }

    private static TugOfWar slipping(int... beats) {
        TugOfWar x = Checks.teams("h99", "h99");
        for (int beat : beats) {
            x.event(0, beat, 0);
        }
        return x;
    }

    private static void spare() {
        CHECKS.promise(23, "spare");
        // Each slip of team 0 costs 3 of the way: by four of them team 1 has won.
        TugOfWar x = Checks.teams("h99", "h99");
        spare(x, 0, -1, -1);
        x.event(1, 23, 0);
        x.event(0, 0, 0);
        x.event(0, 1, 0);
        x.event(0, 2, 0);
        spare(x, 0, -1, -1);
        x.event(0, 3, 0);
        due("won(0)", x.won(0), 1);
        spare(x, 1, 1, -1);
        x.event(0, 4, 0);
        spare(x, 2, 1, 2);
        x.event(0, 5, 0);
        spare(x, -1, -1, -1);
        due("all are still there", x.count(5), 7);
        due("won(0)", x.won(0), 1);
        spare(slipping(0, 1, 2, 3), 1, 0, -1);
        spare(slipping(0, 1, 2, 3, 4), 2, 0, 1);
        // Those on beats 22 and 23 come when team 1 has won, so that it is no help if they are not.
        spare(slipping(23, 0, 1, 2, 3, 22), 1, 1, -1);
        spare(slipping(0, 23, 1, 2, 3, 4), 2, 0, 2);
        spare(Checks.teams("", "h99"), -1, -1, -1);
        spare(Checks.teams("h99", ""), 0, -1, -1);
        due("spare(-2)", x.spare(-2), TugOfWar.BAD);
        due("spare(2)", x.spare(2), TugOfWar.BAD);
    }
}
