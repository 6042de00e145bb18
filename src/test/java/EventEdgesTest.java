/** Promises 9 to 11, of EVENTS: each sentence of the document that names an edge, by itself. */
public final class EventEdgesTest {
    private static final int BAD = -2, NOT = -3, FULL = -4;
    private static final Checks CHECKS = new Checks("EventEdgesTest");

    public static void main(String[] args) {
        kindsBeatsNumbers();
        eightAtMost();
        oneSlipsOnOneBeat();
        oneSlipsWhateverIsCalled();
        oneThatIsNotThereSlips();
        rainFromABeatOn();
        rainLiftsMudToNoMoreThan9();
        aDogOnOneBeat();
        whateverNumberIsTold();
        backDownToNone();
        backUndoesTheLastOne();
        readWholeOnesOnly();
        readAsLongAsEachMayBe();
        readAsLongAsThereIsRoom();
        readOfEachForm();
        CHECKS.end();
    }

    private static void due(String call, long got, long want) {
        CHECKS.due(call, got, want);
    }

    // ---- 9 event

    private static void kindsBeatsNumbers() {
        CHECKS.sentence(9, "a kind, a BEAT, a number 0 to 15: the least and the greatest");
        for (int kind = 0; kind < 3; kind++) {
            TugOfWar x = new TugOfWar();
            due("event(" + kind + ", 0, 0)", x.event(kind, 0, 0), 1);
            due("event(" + kind + ", 23, 15)", x.event(kind, 23, 15), 2);
            due("event(" + kind + ", 24, 0)", x.event(kind, 24, 0), BAD);
            due("event(" + kind + ", -1, 0)", x.event(kind, -1, 0), BAD);
            due("event(" + kind + ", 0, 16)", x.event(kind, 0, 16), BAD);
            due("event(" + kind + ", 0, -1)", x.event(kind, 0, -1), BAD);
            due("event(" + kind + ", 23, 0)", x.event(kind, 23, 0), 3);
            due("event(" + kind + ", 0, 15)", x.event(kind, 0, 15), 4);
            due("count(5)", x.count(5), 4);
        }
        TugOfWar y = new TugOfWar();
        due("event(-1, 0, 0)", y.event(-1, 0, 0), BAD);
        due("event(3, 0, 0)", y.event(3, 0, 0), BAD);
        due("count(5)", y.count(5), 0);
    }

    private static void eightAtMost() {
        CHECKS.sentence(9, "EVENTS, 8 at most: how many; FULL");
        for (int kind = 0; kind < 3; kind++) {
            TugOfWar x = new TugOfWar();
            for (int n = 1; n <= 8; n++) {
                due("event(" + kind + ", 4, 4)", x.event(kind, 4, 4), n);
            }
            due("a ninth", x.event(kind, 4, 4), FULL);
            due("a tenth", x.event(kind, 4, 4), FULL);
            due("count(5)", x.count(5), 8);
            CHECKS.sentence(9, "BAD; FULL: one that cannot be, when there are 8");
            due("no kind", x.event(3, 4, 4), BAD);
            due("no beat", x.event(kind, 24, 4), BAD);
            due("no number", x.event(kind, 4, 16), BAD);
        }
    }

    private static void oneSlipsOnOneBeat() {
        CHECKS.sentence(9, "that PULLER SLIPS on that BEAT: no other one, on no other one");
        String eight = Checks.row("l19", 8);
        for (int number = 0; number < 16; number++) {
            for (int beat = 0; beat < 24; beat += 4) {
                // Where beats are 0, 4 .. 20 all have breath by rest on the others.
                String calls = "prrr".repeat(6);
                TugOfWar x = Checks.teams(eight, eight, calls, calls);
                x.event(0, beat, number);
                for (int p = 0; p < 16; p++) {
                    due("at(" + beat + ", " + p + ", 0) when " + number + " slips", x.at(beat, p, 0), p == number ? 0 : 1);
                    due("its breath", x.at(beat, p, 1), p == number ? 9 : 8);
                    due("its pull on another beat", x.at((beat + 4) % 24, p, 0), 1);
                }
            }
        }
        CHECKS.sentence(9, "SLIPS on the first, on the last BEAT");
        TugOfWar y = Checks.teams("h11", "", "prrrrrrrrrrrrrrrrrrrrrrp", "");
        y.event(0, 0, 0);
        due("at(0, 0, 0)", y.at(0, 0, 0), 0);
        due("at(23, 0, 0)", y.at(23, 0, 0), 1);
        y.event(0, 23, 0);
        due("at(23, 0, 0)", y.at(23, 0, 0), 0);
        due("at(23, 0, 1)", y.at(23, 0, 1), 1);
    }

    private static void oneSlipsWhateverIsCalled() {
        CHECKS.sentence(9, "Who SLIPS does nothing of all this, and has as much BREATH as ahead");
        String[] calls = {"pr", "pp", "ph"};
        String[] rows = {"h53", "l53", "a53", "h53;a53"};
        for (String call : calls) {
            for (String row : rows) {
                TugOfWar x = Checks.teams(row, "", call, "");
                int p = x.count(0) - 1;
                x.event(0, 1, p);
                due("pull of " + row + " by " + call, x.at(1, p, 0), 0);
                due("breath of " + row + " by " + call, x.at(1, p, 1), 2);
                due("the team's", x.rope(1, 1), p == 0 || call.equals("pr") ? 0 : call.equals("pp") ? 5 : 10);
                x.event(2, 1, 0);
                due("pull of " + row + " by a dog", x.at(1, p, 0), 0);
                due("breath of " + row + " by a dog", x.at(1, p, 1), 2);
            }
        }
    }

    private static void oneThatIsNotThereSlips() {
        CHECKS.sentence(9, "a number 0 to 15: of one that is not there");
        TugOfWar x = Checks.teams("h95;h12", "h83;l39");
        TugOfWar plain = Checks.teams("h95;h12", "h83;l39");
        int[] others = {2, 7, 10, 15};
        for (int number : others) {
            x.event(0, 0, number);
            x.event(0, 3, number);
        }
        due("count(5)", x.count(5), 8);
        for (int beat = 0; beat < 24; beat++) {
            due("rope(" + beat + ", 0)", x.rope(beat, 0), plain.rope(beat, 0));
        }
        for (int p = 0; p < 16; p++) {
            due("at(3, " + p + ", 1)", x.at(3, p, 1), plain.at(3, p, 1));
        }
    }

    private static void rainFromABeatOn() {
        CHECKS.sentence(9, "MUD is more by 1 from that BEAT on");
        for (int from = 0; from < 24; from++) {
            TugOfWar x = new TugOfWar();
            x.event(1, from, 0);
            for (int beat = 0; beat < 24; beat++) {
                due("rope(" + beat + ", 3), rain on " + from, x.rope(beat, 3), beat < from ? 0 : 1);
            }
            x.event(1, from, 15);
            due("two on one beat", x.rope(from, 3), 2);
            x.event(1, 12, 0);
            due("a third one", x.rope(23, 3), 3);
        }
    }

    private static void rainLiftsMudToNoMoreThan9() {
        CHECKS.sentence(9, "MUD is 0 to 9; by no more than 9");
        for (int mud = 0; mud < 10; mud++) {
            TugOfWar x = new TugOfWar();
            x.mud(mud);
            for (int n = 1; n <= 8; n++) {
                x.event(1, n, 0);
                due("mud " + mud + " and " + n + " rains", x.rope(n, 3), Math.min(9, mud + n));
                due("at the end", x.rope(23, 3), Math.min(9, mud + n));
            }
        }
        CHECKS.sentence(9, "by no more than 9: in what is pulled, too");
        TugOfWar y = Checks.teams("h98", "", "h", "");
        y.mud(9);
        for (int n = 0; n < 8; n++) {
            y.event(1, 0, 0);
        }
        due("rope(0, 3)", y.rope(0, 3), 9);
        due("at(0, 0, 0), 18 less 9", y.at(0, 0, 0), 9);
    }

    private static void aDogOnOneBeat() {
        CHECKS.sentence(9, "both TEAMS rest on that BEAT");
        for (int beat = 0; beat < 24; beat++) {
            String calls = "r".repeat(beat) + "h" + "r".repeat(23 - beat);
            // What an anchor of 2 holds moves the rope by nothing.
            TugOfWar x = Checks.teams("h12;a24", "l12;h34", calls, calls);
            due("rope(" + beat + ", 1)", x.rope(beat, 1), 2 + 6);
            due("rope(" + beat + ", 2)", x.rope(beat, 2), 2 + 6);
            x.event(2, beat, 0);
            due("rope(" + beat + ", 1), an anchor holds", x.rope(beat, 1), 2);
            due("rope(" + beat + ", 2)", x.rope(beat, 2), 0);
            for (int p = 0; p < 2; p++) {
                due("breath as at first", x.at(beat, p, 1), p == 0 ? 2 : 4);
                due("breath as at first", x.at(beat, 8 + p, 1), p == 0 ? 2 : 4);
            }
            x.event(2, beat, 0);
            due("two dogs are as one", x.rope(beat, 1), 2);
        }
        CHECKS.sentence(9, "rest on that BEAT: on no other one, and as by a call");
        TugOfWar y = Checks.teams("h13;l13", "");
        y.event(2, 2, 0);
        due("at(1, 1, 1)", y.at(1, 1, 1), 1);
        due("at(2, 0, 1), 1 more", y.at(2, 0, 1), 2);
        due("at(2, 1, 1), 2 more", y.at(2, 1, 1), 3);
        due("at(3, 0, 0), a pull", y.at(3, 0, 0), 1);
    }

    private static void whateverNumberIsTold() {
        CHECKS.sentence(9, "whatever number is told");
        for (int number = 0; number < 16; number++) {
            TugOfWar x = Checks.teams(Checks.row("a91", 8), Checks.row("a81", 8));
            x.event(1, 0, number);
            due("rope(0, 3)", x.rope(0, 3), 1);
            due("nobody slips", x.rope(0, 1), 8 * 9 + 2);
            due("nobody slips", x.rope(0, 2), 8 * 8 + 2);
            x.event(2, 1, number);
            due("the anchors hold", x.rope(1, 1), 9);
            due("the anchors hold", x.rope(1, 2), 8);
        }
    }

    // ---- 10 back

    private static void backDownToNone() {
        TugOfWar x = new TugOfWar();
        CHECKS.sentence(10, "NOT: there is none");
        due("back()", x.back(), NOT);
        for (int n = 0; n < 8; n++) {
            x.event(1, n, 0);
        }
        CHECKS.sentence(10, "how many are left");
        for (int left = 7; left >= 0; left--) {
            due("back()", x.back(), left);
            due("rope(23, 3)", x.rope(23, 3), left);
            due("count(5)", x.count(5), left);
        }
        CHECKS.sentence(10, "NOT: there is none");
        due("back()", x.back(), NOT);
        due("back()", x.back(), NOT);
        due("event(1, 0, 0)", x.event(1, 0, 0), 1);
        CHECKS.sentence(10, "how many are left: of 8 there is room for one again");
        for (int n = 0; n < 9; n++) {
            x.event(1, 0, 0);
        }
        due("back()", x.back(), 7);
        due("event(0, 0, 0)", x.event(0, 0, 0), 8);
        due("event(0, 0, 0)", x.event(0, 0, 0), FULL);
    }

    private static void backUndoesTheLastOne() {
        CHECKS.sentence(10, "The last EVENT is undone: not the first, not one on a later BEAT");
        TugOfWar x = Checks.teams("h93", "h93");
        x.event(0, 2, 0);
        x.event(0, 0, 0);
        due("rope(2, 0)", x.rope(2, 0), 6);
        due("back()", x.back(), 1);
        due("rope(0, 0)", x.rope(0, 0), 12);
        due("rope(2, 0)", x.rope(2, 0), 9);
        CHECKS.sentence(10, "one that was refused is none");
        due("event(0, 0, 16)", x.event(0, 0, 16), BAD);
        due("back()", x.back(), 0);
        due("rope(2, 0)", x.rope(2, 0), 12);
    }

    // ---- 11 read

    private static void put(TugOfWar x, int s, int form, int... values) {
        x.sheet(s, form, values.length);
        for (int i = 0; i < values.length; i++) {
            x.put(s, form, i, values[i]);
        }
    }

    private static void readWholeOnesOnly() {
        CHECKS.sentence(11, "three for each, as many as are whole");
        for (int n = 0; n <= 60; n++) {
            TugOfWar x = new TugOfWar();
            x.sheet(0, n % 3, n);
            // All items are 0: that one slips on beat 0.
            due("read of " + n + " items", x.read(0), Math.min(8, n / 3));
            due("count(5)", x.count(5), Math.min(8, n / 3));
        }
        CHECKS.sentence(11, "its items, three for each: a kind, a BEAT, a number");
        TugOfWar y = Checks.teams("h11;h11", "h11");
        put(y, 3, 2, 0, 2, 1, 1, 23, 0, 2, 0, 9, 0, 1);
        due("read(3)", y.read(3), 3);
        due("at(0, 0, 0), a dog", y.at(0, 0, 0), 0);
        due("at(1, 0, 0)", y.at(1, 0, 0), 1);
        due("rope(22, 3)", y.rope(22, 3), 0);
        due("rope(23, 3), rain", y.rope(23, 3), 1);
        due("back()", y.back(), 2);
        due("back()", y.back(), 1);
        due("at(0, 0, 0)", y.at(0, 0, 0), 1);
        due("get(3, 2, 1), the SHEET is as it was", y.get(3, 2, 1), 2);
        due("lose(3)", y.lose(3), 11);
        due("count(8)", y.count(8), 0);
    }

    private static void readAsLongAsEachMayBe() {
        CHECKS.sentence(11, "as long as each may be");
        int[][] wrong = {{-1, 0, 0}, {3, 0, 0}, {0, -1, 0}, {0, 24, 0}, {0, 0, -1}, {0, 0, 16}, {1, 0, 16}, {2, 24, 0}};
        for (int[] w : wrong) {
            for (int at = 0; at < 3; at++) {
                TugOfWar x = new TugOfWar();
                put(x, 1, 0, 1, 0, 0, 1, 23, 15, 1, 0, 0);
                for (int i = 0; i < 3; i++) {
                    x.put(1, 0, 3 * at + i, w[i]);
                }
                due("read, one of " + w[0] + ", " + w[1] + ", " + w[2], x.read(1), at);
                due("count(5)", x.count(5), at);
                due("rope(23, 3)", x.rope(23, 3), at);
                due("count(8)", x.count(8), 0);
            }
        }
    }

    private static void readAsLongAsThereIsRoom() {
        CHECKS.sentence(11, "as long as each may be: 8 at most; behind those that there are");
        for (int before = 0; before <= 8; before++) {
            TugOfWar x = new TugOfWar();
            for (int n = 0; n < before; n++) {
                x.event(2, 0, 0);
            }
            put(x, 2, 1, 1, 0, 0, 1, 0, 0, 1, 0, 0);
            int came = Math.min(3, 8 - before);
            due("read behind " + before, x.read(2), came);
            due("count(5)", x.count(5), before + came);
            due("rope(0, 3)", x.rope(0, 3), came);
            if (before > 0 && came > 0) {
                due("back()", x.back(), before + came - 1);
                due("rope(0, 3), the last one undone", x.rope(0, 3), came - 1);
            }
        }
        CHECKS.sentence(11, "how many: read again, it comes again");
        TugOfWar y = new TugOfWar();
        put(y, 0, 0, 1, 5, 0, 1, 5, 0, 1, 5, 0);
        due("read(0)", y.read(0), 3);
        due("read(0)", y.read(0), 3);
        due("read(0)", y.read(0), 2);
        due("read(0)", y.read(0), 0);
        due("rope(5, 3)", y.rope(5, 3), 8);
    }

    private static void readOfEachForm() {
        CHECKS.sentence(11, "its items: the lowest bits that each has");
        int[] values = {256 + 1, 65536 + 1, 1};
        for (int form = 0; form < 3; form++) {
            for (int v : values) {
                TugOfWar x = new TugOfWar();
                put(x, 0, form, v, 0, 0);
                boolean may = v == 1 || form == 0 || form == 1 && v == 65537;
                due("read of FORM " + form + " with " + v, x.read(0), may ? 1 : 0);
                due("rope(0, 3)", x.rope(0, 3), may ? 1 : 0);
            }
        }
        due("is a byte 255 below 0", readOne(0, 255), 0);
        due("is a short 65535 below 0", readOne(1, 65535), 0);
        due("is an int 65535 no kind", readOne(2, 65535), 0);
    }

    private static int readOne(int form, int kind) {
        TugOfWar x = new TugOfWar();
        put(x, 0, form, kind, 0, 0);
        return x.read(0);
    }
}
