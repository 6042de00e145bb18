/** Promises 5 to 8, of texts and MUD as told: each sentence of the document that names an edge, by itself. */
public final class TextEdgesTest {
    private static final int NONE = -1, BAD = -2, FULL = -4;
    private static final String RESTS = "r".repeat(24);
    private static final Checks CHECKS = new Checks("TextEdgesTest");

    public static void main(String[] args) {
        eachByteOfAPuller();
        eachByteOfCalls();
        theFirstFaultIsTold();
        anEmptyTextIsWell();
        aTextThatIsNotEnded();
        aNinthPuller();
        aTeamWithAFaultIsEmpty();
        callsWithAFaultAreEmpty();
        eachNumberOfPullers();
        figuresFrom1To9();
        pullersAreAsTold();
        laterCallsArePulls();
        mudGoesFrom0To9();
        mudIsThatAtFirst();
        CHECKS.end();
    }

    private static void due(String call, long got, long want) {
        CHECKS.due(call, got, want);
    }

    // ---- 5 fault

    private static void eachByteOfAPuller() {
        CHECKS.sentence(5, "the place of the first byte with which it cannot go on: a PULLER's");
        String[] ahead = {"", "h", "h1", "h11", "h11;", "a99;l9", Checks.row("l55", 7) + ";h1"};
        String[] may = {"hla", "123456789", "123456789", ";", "hla", "123456789", "123456789"};
        for (int text = 0; text < 2; text++) {
            for (int i = 0; i < ahead.length; i++) {
                for (int b = 0; b < 256; b++) {
                    TugOfWar x = new TugOfWar();
                    Checks.type(x, text, ahead[i]);
                    x.type(text, b);
                    int place = ahead[i].length();
                    boolean goesOn = may[i].indexOf(b) >= 0;
                    boolean ends = place % 4 == 2;
                    due("fault of " + ahead[i] + " and " + b, x.fault(text), goesOn ? ends ? NONE : place + 1 : place);
                }
            }
        }
    }

    private static void eachByteOfCalls() {
        CHECKS.sentence(5, "the place of the first byte with which it cannot go on: of CALLS");
        for (int text = 2; text < 4; text++) {
            for (int place = 0; place < 24; place += 23) {
                for (int b = 0; b < 256; b++) {
                    TugOfWar x = new TugOfWar();
                    Checks.type(x, text, "p".repeat(place));
                    x.type(text, b);
                    due("fault of " + place + " calls and " + b, x.fault(text), "rph".indexOf(b) >= 0 ? NONE : place);
                }
            }
        }
    }

    private static void theFirstFaultIsTold() {
        CHECKS.sentence(5, "the first byte with which it cannot go on: whatever comes behind it");
        TugOfWar x = new TugOfWar();
        for (int text = 0; text < 4; text++) {
            Checks.type(x, text, text < 2 ? "h11" : "rph");
            for (int n = 0; n < 5; n++) {
                x.type(text, "x?h1;".charAt(n));
                due("fault(" + text + ") of " + (4 + n) + " bytes", x.fault(text), 3);
            }
        }
        TugOfWar y = Checks.teams(Checks.row("h11", 7) + ";h1x", "", "r".repeat(23) + "x", "");
        due("fault(0) at the last byte", y.fault(0), 30);
        due("fault(2) at the last byte", y.fault(2), 23);
        due("fault(1) of another text", y.fault(1), NONE);
        due("fault(3) of another text", y.fault(3), NONE);
    }

    private static void anEmptyTextIsWell() {
        CHECKS.sentence(5, "an empty one is well");
        TugOfWar x = new TugOfWar();
        for (int text = 0; text < 4; text++) {
            due("fault(" + text + ")", x.fault(text), NONE);
            x.type(text, 0);
            due("fault(" + text + ") of a byte 0", x.fault(text), 0);
            x.undo(text);
            due("fault(" + text + ") of none again", x.fault(text), NONE);
        }
    }

    private static void aTextThatIsNotEnded() {
        CHECKS.sentence(5, "of one that is not ended, its end");
        String whole = Checks.row("a91", 8);
        for (int text = 0; text < 2; text++) {
            TugOfWar x = new TugOfWar();
            for (int n = 1; n <= 31; n++) {
                x.type(text, whole.charAt(n - 1));
                boolean ended = n % 4 == 3;
                due("fault of " + n + " bytes", x.fault(text), ended ? NONE : n);
                due("its PULLERS", x.count(text), ended ? (n + 1) / 4 : 0);
            }
        }
        CHECKS.sentence(5, "CALLS are ended wherever they end");
        for (int text = 2; text < 4; text++) {
            TugOfWar x = new TugOfWar();
            for (int n = 1; n <= 24; n++) {
                x.type(text, 'r');
                due("fault of " + n + " calls", x.fault(text), NONE);
                due("its CALLS", x.count(text), n);
            }
        }
    }

    private static void aNinthPuller() {
        CHECKS.sentence(5, "8 PULLERS at most; a ninth one has no room");
        for (int text = 0; text < 2; text++) {
            TugOfWar x = new TugOfWar();
            Checks.type(x, text, Checks.row("l37", 8));
            due("fault of eight", x.fault(text), NONE);
            due("type(" + text + ", ;)", x.type(text, ';'), FULL);
            due("type(" + text + ", h)", x.type(text, 'h'), FULL);
            due("fault of eight still", x.fault(text), NONE);
            due("count(" + text + ")", x.count(text), 8);
        }
    }

    private static void aTeamWithAFaultIsEmpty() {
        CHECKS.sentence(5, "With a FAULT a text is as if it was empty: a TEAM");
        for (int team = 0; team < 2; team++) {
            TugOfWar x = Checks.teams("h99;a99", "h99;a99", "r", "r");
            x.type(team, ';');
            TugOfWar empty = Checks.teams(team == 0 ? "" : "h99;a99", team == 0 ? "h99;a99" : "", "r", "r");
            for (int beat = 0; beat < 24; beat++) {
                for (int what = 0; what < 4; what++) {
                    due("rope(" + beat + ", " + what + ")", x.rope(beat, what), empty.rope(beat, what));
                }
            }
            due("puller(" + 8 * team + ", 0)", x.puller(8 * team, 0), BAD);
            due("done of the other one", x.done(8 - 8 * team) > 0 ? 1 : 0, 1);
            due("count(" + team + ")", x.count(team), 0);
            due("count of the other one", x.count(1 - team), 2);
            due("swap(" + team + ", 0)", x.swap(team, 0), NONE);
            due("out(" + team + ", 0)", x.out(team, 0), NONE);
            due("count(4), all its bytes", x.count(4), 7 + 7 + 1 + 1 + 1);
        }
    }

    private static void callsWithAFaultAreEmpty() {
        CHECKS.sentence(5, "With a FAULT a text is as if it was empty: CALLS");
        for (int team = 0; team < 2; team++) {
            TugOfWar x = Checks.teams("h91", "h91", RESTS.substring(1), RESTS.substring(1));
            due("rope(23, 0), none or both on the last beat", x.rope(23, 0), 12);
            due("rope(0, " + (1 + team) + ")", x.rope(0, 1 + team), 0);
            x.type(2 + team, '.');
            due("rope(0, " + (1 + team) + "), a pull", x.rope(0, 1 + team), 9);
            due("rope(0, " + (2 - team) + "), a rest", x.rope(0, 2 - team), 0);
            for (int beat = 0; beat < 24; beat++) {
                due("call(" + team + ", " + beat + ")", x.call(team, beat), 1);
                due("call of the other one", x.call(1 - team, beat), beat < 23 ? 0 : 1);
            }
            due("count(" + (2 + team) + ")", x.count(2 + team), 0);
            due("count of the other one", x.count(3 - team), 23);
        }
    }

    // ---- 6 puller

    private static void eachNumberOfPullers() {
        CHECKS.sentence(6, "those of TEAM 0 are numbers 0 on, of TEAM 1 8 on; BAD: there is no such PULLER, too");
        for (int team = 0; team < 2; team++) {
            for (int n = 0; n <= 8; n++) {
                TugOfWar x = Checks.oneTeam(team, Checks.row("l37", n), "");
                for (int p = -1; p <= 16; p++) {
                    boolean there = p >= 8 * team && p < 8 * team + n;
                    due("puller(" + p + ", 0) of " + n, x.puller(p, 0), there ? 1 : BAD);
                    due("puller(" + p + ", 1) of " + n, x.puller(p, 1), there ? 3 : BAD);
                    due("puller(" + p + ", 2) of " + n, x.puller(p, 2), there ? 7 : BAD);
                }
                due("count(" + team + ")", x.count(team), n);
                due("count(" + (1 - team) + ")", x.count(1 - team), 0);
            }
        }
        CHECKS.sentence(6, "from the knot to the end");
        TugOfWar y = Checks.teams("h11;l22;a33;h44;l55;a66;h77;l88", "l99;a88;h77;l66;a55;h44;l33;a22");
        for (int i = 0; i < 8; i++) {
            due("puller(" + i + ", 1)", y.puller(i, 1), i + 1);
            due("puller(" + i + ", 0)", y.puller(i, 0), i % 3);
            due("puller(" + (8 + i) + ", 1)", y.puller(8 + i, 1), 9 - i);
            due("puller(" + (8 + i) + ", 0)", y.puller(8 + i, 0), (i + 1) % 3);
        }
    }

    private static void figuresFrom1To9() {
        CHECKS.sentence(6, "a figure 1 to 9, the WEIGHT, and a figure 1 to 9, the WIND");
        for (int weight = 0; weight < 10; weight++) {
            for (int wind = 0; wind < 10; wind++) {
                TugOfWar x = Checks.teams("a" + weight + wind, "h" + weight + wind);
                boolean may = weight > 0 && wind > 0;
                for (int p = 0; p < 16; p += 8) {
                    due("puller(" + p + ", 1) of " + weight + wind, x.puller(p, 1), may ? weight : BAD);
                    due("puller(" + p + ", 2) of " + weight + wind, x.puller(p, 2), may ? wind : BAD);
                }
            }
        }
    }

    private static void pullersAreAsTold() {
        CHECKS.sentence(6, "as told: whatever it has left, whatever befalls it");
        TugOfWar x = Checks.teams("h91", "l19");
        x.mud(9);
        x.event(0, 0, 0);
        x.event(1, 0, 0);
        due("at(23, 0, 1), no breath", x.at(23, 0, 1), 0);
        due("puller(0, 2), its wind", x.puller(0, 2), 1);
        due("puller(0, 1), its weight", x.puller(0, 1), 9);
        due("puller(8, 1)", x.puller(8, 1), 1);
    }

    // ---- 7 call

    private static void laterCallsArePulls() {
        CHECKS.sentence(7, "p on later ones");
        for (int team = 0; team < 2; team++) {
            for (int n = 0; n <= 24; n++) {
                TugOfWar x = Checks.oneTeam(team, "", RESTS.substring(0, n));
                for (int beat = 0; beat < 24; beat++) {
                    due("call(" + team + ", " + beat + ") of " + n, x.call(team, beat), beat < n ? 0 : 1);
                }
                due("call of the other team", x.call(1 - team, 0), 1);
            }
        }
        CHECKS.sentence(7, "0 r, 1 p, 2 h");
        TugOfWar y = Checks.teams("", "", "rph", "hpr");
        for (int beat = 0; beat < 3; beat++) {
            due("call(0, " + beat + ")", y.call(0, beat), beat);
            due("call(1, " + beat + ")", y.call(1, beat), 2 - beat);
        }
        CHECKS.sentence(7, "What is called: a DOG or none, one that has WON or not");
        TugOfWar z = Checks.teams("h99", "", "pppphhr", "");
        z.event(2, 6, 0);
        due("won(1)", z.won(1), 3);
        due("call(0, 5)", z.call(0, 5), 2);
        z.event(2, 3, 0);
        z.event(2, 4, 0);
        due("call(0, 3)", z.call(0, 3), 1);
        due("call(0, 4)", z.call(0, 4), 2);
    }

    // ---- 8 mud

    private static void mudGoesFrom0To9() {
        CHECKS.sentence(8, "MUD is 0 to 9 (0 at first): what it was");
        TugOfWar x = new TugOfWar();
        int was = 0;
        int[] told = {0, 9, 0, 1, 8, 9, 9, 5, 2, 3, 4, 6, 7, 0};
        for (int v : told) {
            due("mud(" + v + ")", x.mud(v), was);
            due("rope(0, 3)", x.rope(0, 3), v);
            due("rope(23, 3)", x.rope(23, 3), v);
            due("mud(-1)", x.mud(-1), BAD);
            due("mud(10)", x.mud(10), BAD);
            due("rope(0, 3), as it was", x.rope(0, 3), v);
            was = v;
        }
    }

    private static void mudIsThatAtFirst() {
        CHECKS.sentence(8, "MUD at first: without RAIN");
        TugOfWar x = new TugOfWar();
        x.mud(3);
        x.event(1, 0, 0);
        due("rope(0, 3)", x.rope(0, 3), 4);
        due("mud(9)", x.mud(9), 3);
        due("rope(0, 3), no more than 9", x.rope(0, 3), 9);
        due("mud(8)", x.mud(8), 9);
        due("rope(0, 3)", x.rope(0, 3), 9);
        x.back();
        due("rope(0, 3)", x.rope(0, 3), 8);
        due("mud(0)", x.mud(0), 8);
    }
}
