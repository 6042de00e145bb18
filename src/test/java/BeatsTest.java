/** Promises 12 to 19: how the rope goes, and what each does. */
public final class BeatsTest {
    private static final Checks CHECKS = new Checks("BeatsTest");

    public static void main(String[] args) {
        rope();
        at();
        anchors();
        atAnEnd();
        won();
        furthest();
        done();
        spent();
        best();
        level();
        CHECKS.end();
    }

    private static void due(String call, long got, long want) {
        CHECKS.due(call, got, want);
    }

    private static void rope() {
        CHECKS.promise(12, "rope");
        // By 9 or more the rope goes 3, by 8 it goes 2, by 2 not at all.
        int[] weights = {1, 2, 3, 5, 6, 8, 9};
        int[] ways = {0, 0, 1, 1, 2, 2, 3};
        for (int i = 0; i < weights.length; i++) {
            String one = "h" + weights[i] + "1";
            due("up by " + one, Checks.teams(one, "").rope(0, 0), 12 + ways[i]);
            due("down by " + one, Checks.teams("", one).rope(0, 0), 12 - ways[i]);
        }
        TugOfWar x = Checks.teams("h91;h91", "h41;l31", "h", "rp");
        x.event(1, 1, 0);
        due("rope(0, 0)", x.rope(0, 0), 15);
        due("rope(0, 1)", x.rope(0, 1), 36);
        due("rope(0, 2)", x.rope(0, 2), 0);
        due("rope(0, 3)", x.rope(0, 3), 0);
        due("rope(1, 0)", x.rope(1, 0), 14);
        due("rope(1, 1)", x.rope(1, 1), 0);
        due("rope(1, 2)", x.rope(1, 2), 5);
        due("rope(1, 3)", x.rope(1, 3), 1);
        due("rope(23, 0)", x.rope(23, 0), 14);
        due("rope(-1, 0)", x.rope(-1, 0), TugOfWar.BAD);
        due("rope(24, 0)", x.rope(24, 0), TugOfWar.BAD);
        due("rope(0, -1)", x.rope(0, -1), TugOfWar.BAD);
        due("rope(0, 4)", x.rope(0, 4), TugOfWar.BAD);
        due("held too", Checks.teams("a71", "", "r", "").rope(0, 1), 7);
    }

    private static void row(TugOfWar x, int puller, int[] pulls, int[] breath) {
        for (int beat = 0; beat < pulls.length; beat++) {
            due("at(" + beat + ", " + puller + ", 0)", x.at(beat, puller, 0), pulls[beat]);
            due("at(" + beat + ", " + puller + ", 1)", x.at(beat, puller, 1), breath[beat]);
        }
    }

    private static void at() {
        CHECKS.promise(13, "at");
        row(Checks.teams("h43", "", "hphhrrp", ""), 0,
            new int[] {8, 4, 8, 0, 0, 0, 4}, new int[] {2, 1, 0, 0, 1, 2, 1});
        row(Checks.teams("l43", "", "hhhrrrh", ""), 0,
            new int[] {8, 4, 0, 0, 0, 0, 8}, new int[] {1, 0, 0, 2, 3, 3, 1});
        row(Checks.teams("", "l12", "", "prr"), 8, new int[] {1, 0, 0}, new int[] {1, 2, 2});
        row(Checks.teams("", "h12", "", "pprrr"), 8, new int[] {1, 1, 0, 0, 0}, new int[] {1, 0, 1, 2, 2});
        TugOfWar x = Checks.teams("h11", "h11");
        due("at(-1, 0, 0)", x.at(-1, 0, 0), TugOfWar.BAD);
        due("at(24, 0, 0)", x.at(24, 0, 0), TugOfWar.BAD);
        due("at(0, -1, 0)", x.at(0, -1, 0), TugOfWar.BAD);
        due("at(0, 1, 0)", x.at(0, 1, 0), TugOfWar.BAD);
        due("at(0, 9, 0)", x.at(0, 9, 0), TugOfWar.BAD);
        due("at(0, 16, 0)", x.at(0, 16, 0), TugOfWar.BAD);
        due("at(0, 0, -1)", x.at(0, 0, -1), TugOfWar.BAD);
        due("at(0, 0, 2)", x.at(0, 0, 2), TugOfWar.BAD);
    }

    private static void anchors() {
        CHECKS.promise(13, "at, of anchors");
        row(Checks.teams("h11;a24", "", "hprhr", ""), 1, new int[] {6, 4, 2, 4, 2}, new int[] {2, 1, 1, 0, 0});
        row(Checks.teams("a24;h11", "", "hprhr", ""), 0, new int[] {4, 2, 0, 4, 0}, new int[] {2, 1, 2, 0, 1});
        row(Checks.teams("", "a24;a24", "", "hprhr"), 9, new int[] {6, 4, 2, 4, 2}, new int[] {2, 1, 1, 0, 0});
        TugOfWar x = Checks.teams("a24;a24;h34", "", "rp", "");
        x.mud(3);
        row(x, 0, new int[] {0, 2}, new int[] {4, 3});
        row(x, 2, new int[] {0, 0}, new int[] {4, 3});
        TugOfWar y = Checks.teams("a31", "a91;a91;a91;a91;a91;a91;a91;a41", "r", "r");
        due("rope(0, 0)", y.rope(0, 0), 12);
        due("rope(0, 1)", y.rope(0, 1), 3);
        due("rope(0, 2)", y.rope(0, 2), 4);
    }

    private static void atAnEnd() {
        CHECKS.promise(13, "at, when a team has won");
        TugOfWar x = Checks.teams("h99;l19", "l15", "ppppr", "");
        x.event(1, 20, 0);
        due("rope(3, 0)", x.rope(3, 0), 24);
        due("at(3, 0, 0)", x.at(3, 0, 0), 9);
        due("at(4, 0, 0)", x.at(4, 0, 0), 0);
        due("at(4, 1, 1), no rest", x.at(4, 1, 1), 5);
        due("at(23, 8, 1)", x.at(23, 8, 1), 1);
        due("rope(4, 1)", x.rope(4, 1), 0);
        due("rope(4, 2)", x.rope(4, 2), 0);
        due("rope(23, 0)", x.rope(23, 0), 24);
        due("rope(19, 3)", x.rope(19, 3), 0);
        due("rope(20, 3), rain all the same", x.rope(20, 3), 1);
    }

    private static void won() {
        CHECKS.promise(14, "won");
        String[] rows = {"h99", "h89", "h93", "h83", "h94", "h35", ""};
        int[] beats = {3, 4, -1, -1, 3, -1, -1};
        for (int i = 0; i < rows.length; i++) {
            int team = beats[i] < 0 ? -1 : 0;
            due("won(0) of " + rows[i], Checks.teams(rows[i], "").won(0), team);
            due("won(1) of " + rows[i], Checks.teams(rows[i], "").won(1), beats[i]);
            due("won(0) against " + rows[i], Checks.teams("", rows[i]).won(0), beats[i] < 0 ? -1 : 1);
            due("won(1) against " + rows[i], Checks.teams("", rows[i]).won(1), beats[i]);
        }
        TugOfWar x = Checks.teams("h89", "");
        due("rope(4, 0), just 22", x.rope(4, 0), 22);
        due("rope(23, 0)", x.rope(23, 0), 22);
        due("just 2", Checks.teams("", "h89").rope(23, 0), 2);
        due("just 21", Checks.teams("h93", "").rope(23, 0), 21);
        due("just 3", Checks.teams("", "h93").rope(23, 0), 3);
        due("won(-1)", x.won(-1), TugOfWar.BAD);
        due("won(2)", x.won(2), TugOfWar.BAD);
    }

    private static void furthest() {
        CHECKS.promise(15, "furthest");
        due("furthest(0) of none", new TugOfWar().furthest(0), 12);
        due("furthest(1) of none", new TugOfWar().furthest(1), 12);
        due("furthest(0) down", Checks.teams("", "h92").furthest(0), 12);
        due("furthest(1) down", Checks.teams("", "h92").furthest(1), 6);
        due("furthest(0) up", Checks.teams("h92", "").furthest(0), 18);
        due("furthest(1) up", Checks.teams("h92", "").furthest(1), 12);
        // Up by 3 on beat 0, then down by 3 on each of beats 1 to 3.
        TugOfWar x = Checks.teams("h91", "h93", "", "r");
        due("furthest(0)", x.furthest(0), 15);
        due("furthest(1)", x.furthest(1), 6);
        due("furthest(-1)", x.furthest(-1), TugOfWar.BAD);
        due("furthest(2)", x.furthest(2), TugOfWar.BAD);
    }

    private static void done() {
        CHECKS.promise(16, "done");
        TugOfWar x = Checks.teams("h22;a12", "l13", "hhr", "");
        due("done(0)", x.done(0), 8 + 2);
        due("done(1), 20 beats held or out of breath", x.done(1), 4 + 1);
        due("done(8)", x.done(8), 3);
        due("done(-1)", x.done(-1), TugOfWar.BAD);
        due("done(2)", x.done(2), TugOfWar.BAD);
        due("done(9)", x.done(9), TugOfWar.BAD);
        due("done(16)", x.done(16), TugOfWar.BAD);
        due("done of one that stops by winning", Checks.teams("h99", "").done(0), 36);
    }

    private static void spent() {
        CHECKS.promise(17, "spent");
        due("spent() of none", new TugOfWar().spent(), 0);
        due("spent()", Checks.teams("h11;a19;l19", "h19;a15").spent(), 0x0307);
        String rests = "rrrrrrrrrrrrrrrrrrrrrrrr";
        due("spent() by rest", Checks.teams("h11;h11;h11;h11;h11;h11;h11;h11", "h11", rests, "").spent(), 0x0100);
        String late = "rrrrrrrrrrrrrrrrrrrrrrr";
        due("spent() by the last beat", Checks.teams("h11;h12", "", late, "").spent(), 1);
        due("spent() by rest on the last beat", Checks.teams("h11", "", late + "r", "").spent(), 0);
        due("spent() when one has won", Checks.teams("h99;h91", "").spent(), 2);
    }

    private static void best() {
        CHECKS.promise(18, "best");
        due("best() of none", new TugOfWar().best(), TugOfWar.NONE);
        due("best()", Checks.teams("h11;h22", "h31;h22").best(), 1);
        due("best() by 1", Checks.teams("", "h11").best(), 8);
        due("best() of team 1", Checks.teams("h11;h22", "h31;h32").best(), 9);
        due("best() of like ones", Checks.teams("h13", "h31;h13").best(), 0);
        TugOfWar x = Checks.teams("h15", "h15");
        x.mud(1);
        due("best() when nobody did anything", x.best(), TugOfWar.NONE);
    }

    private static void level() {
        CHECKS.promise(19, "level");
        due("level() of none", new TugOfWar().level(), 24);
        due("level() of like teams", Checks.teams("h55", "h55").level(), 24);
        due("level() behind 5 beats", Checks.teams("h15", "").level(), 19);
        due("level() of one who wins", Checks.teams("h99", "").level(), 0);
        due("level() of one who wins later", Checks.teams("h99", "", "rrr", "").level(), 3);
        due("level() by what is held", Checks.teams("a31", "h31", "rr", "rp").level(), 22);
    }
}
