/** Promises 1 to 11: each sentence of the document that names an edge, by itself. */
public final class TellEdgesTest {
    private static final int NONE = -1, BAD = -2, NOT = -3, FULL = -4;
    private static final int[] ROOM = {31, 31, 24, 24};
    private static final String EIGHT = Checks.row("h11", 8);
    private static final Checks CHECKS = new Checks("TellEdgesTest");

    public static void main(String[] args) {
        aNewObject();
        aNewObjectHasNoCallsNoMudNoEvents();
        allSheetsAreLost();
        bytesGoFrom0To255();
        textsHaveRoomFor31And24();
        aTextIsFullByItself();
        aTextThatWasFullGoesOn();
        wipeTellsHowManyThereWere();
        wipeLeavesTheOthers();
        undoGoesDownToNone();
        undoTakesBackAFault();
        CHECKS.end();
    }

    private static void due(String call, long got, long want) {
        CHECKS.due(call, got, want);
    }

    // ---- 1 a new object

    private static void aNewObject() {
        CHECKS.sentence(1, "No PULLERS");
        TugOfWar x = new TugOfWar();
        for (int p = 0; p < 16; p++) {
            for (int what = 0; what < 3; what++) {
                due("puller(" + p + ", " + what + ")", x.puller(p, what), BAD);
            }
            due("at(0, " + p + ", 0)", x.at(0, p, 0), BAD);
            due("done(" + p + ")", x.done(p), BAD);
            due("was(" + p + ", 0)", x.was(p, 0), BAD);
            due("ask(" + p + ")", x.ask(p), BAD);
        }
        due("spent()", x.spent(), 0);
        due("best()", x.best(), NONE);
        for (int team = 0; team < 2; team++) {
            due("count(" + team + ")", x.count(team), 0);
            for (int what = 0; what < 3; what++) {
                due("swap(" + team + ", " + what + ")", x.swap(team, what), NONE);
            }
            due("out(" + team + ", 0)", x.out(team, 0), NONE);
            due("out(" + team + ", 1)", x.out(team, 1), NONE);
        }
    }

    private static void aNewObjectHasNoCallsNoMudNoEvents() {
        TugOfWar x = new TugOfWar();
        CHECKS.sentence(1, "no CALLS told");
        for (int team = 0; team < 2; team++) {
            due("count(" + (2 + team) + ")", x.count(2 + team), 0);
            for (int beat = 0; beat < 24; beat++) {
                due("call(" + team + ", " + beat + ")", x.call(team, beat), 1);
            }
        }
        for (int text = 0; text < 4; text++) {
            due("fault(" + text + ")", x.fault(text), NONE);
            due("wipe(" + text + ")", x.wipe(text), 0);
        }
        CHECKS.sentence(1, "MUD 0");
        for (int beat = 0; beat < 24; beat++) {
            due("rope(" + beat + ", 3)", x.rope(beat, 3), 0);
        }
        due("mud(3)", x.mud(3), 0);
        CHECKS.sentence(1, "no EVENTS");
        due("count(5)", x.count(5), 0);
        due("never()", x.never(), 0);
        due("back()", x.back(), NOT);
        due("event(0, 0, 0)", x.event(0, 0, 0), 1);
        CHECKS.sentence(1, "nothing SEEN, no FINDING");
        due("count(7)", x.count(7), 0);
        due("forget()", x.forget(), 0);
        due("count(8)", x.count(8), 0);
    }

    private static void allSheetsAreLost() {
        CHECKS.sentence(1, "all SHEETS are LOST");
        for (int s = 0; s < 4; s++) {
            TugOfWar x = new TugOfWar();
            due("read(" + s + ")", x.read(s), -11);
            due("lose(" + s + ")", x.lose(s), -11);
            due("put(" + s + ", 0, 0, 0)", x.put(s, 0, 0, 0), -11);
            due("copy(" + s + ", 0, " + s + ", 0, 0)", x.copy(s, 0, s, 0, 0), -11);
            due("write(" + s + ")", x.write(s), -11);
            x.sheet(0, 0, -1);
            due("get(" + s + ", 0, 0)", x.get(s, 0, 0), Integer.MIN_VALUE);
            due("count(8)", x.count(8), 1);
        }
    }

    // ---- 2 type

    private static void bytesGoFrom0To255() {
        CHECKS.sentence(2, "A byte (0 to 255)");
        for (int text = 0; text < 4; text++) {
            TugOfWar x = new TugOfWar();
            due("type(" + text + ", 0)", x.type(text, 0), 1);
            due("type(" + text + ", 255)", x.type(text, 255), 2);
            due("type(" + text + ", -1)", x.type(text, -1), BAD);
            due("type(" + text + ", 256)", x.type(text, 256), BAD);
            due("type(" + text + ", 1)", x.type(text, 1), 3);
            due("type(" + text + ", 254)", x.type(text, 254), 4);
        }
        CHECKS.sentence(2, "BAD, not the lowest bits of a greater number");
        TugOfWar y = new TugOfWar();
        due("type(2, 256 and r)", y.type(2, 256 + 'r'), BAD);
        due("type(2, r)", y.type(2, 'r'), 1);
        due("count(2)", y.count(2), 1);
    }

    private static void textsHaveRoomFor31And24() {
        for (int text = 0; text < 4; text++) {
            CHECKS.sentence(2, "up to 31 bytes (texts 0, 1), up to 24 bytes (texts 2, 3)");
            TugOfWar x = new TugOfWar();
            for (int n = 1; n <= ROOM[text]; n++) {
                due("type(" + text + ", 104)", x.type(text, 104), n);
            }
            due("count(4)", x.count(4), ROOM[text]);
            CHECKS.sentence(2, "FULL");
            due("one more to text " + text, x.type(text, 104), FULL);
            due("one more to text " + text + " again", x.type(text, 104), FULL);
            due("count(4)", x.count(4), ROOM[text]);
            CHECKS.sentence(2, "BAD; FULL: no byte to a text that is full");
            due("type(" + text + ", -1)", x.type(text, -1), BAD);
            due("type(" + text + ", 256)", x.type(text, 256), BAD);
        }
    }

    private static void aTextIsFullByItself() {
        CHECKS.sentence(2, "FULL: of each text by itself");
        for (int text = 0; text < 4; text++) {
            TugOfWar x = new TugOfWar();
            Checks.type(x, text, "h".repeat(ROOM[text]));
            for (int other = 0; other < 4; other++) {
                due("type(" + other + ", 112)", x.type(other, 112), other == text ? FULL : 1);
            }
            due("count(4)", x.count(4), ROOM[text] + 3);
        }
    }

    private static void aTextThatWasFullGoesOn() {
        CHECKS.sentence(2, "how many: behind undo, wipe of one that was FULL");
        for (int text = 0; text < 4; text++) {
            TugOfWar x = new TugOfWar();
            Checks.type(x, text, "h".repeat(ROOM[text]));
            due("type(" + text + ", 104)", x.type(text, 104), FULL);
            due("undo(" + text + ")", x.undo(text), ROOM[text] - 1);
            due("type(" + text + ", 104)", x.type(text, 104), ROOM[text]);
            due("type(" + text + ", 104)", x.type(text, 104), FULL);
            due("wipe(" + text + ")", x.wipe(text), ROOM[text]);
            due("type(" + text + ", 104)", x.type(text, 104), 1);
        }
    }

    // ---- 3 wipe

    private static void wipeTellsHowManyThereWere() {
        for (int text = 0; text < 4; text++) {
            CHECKS.sentence(3, "how many bytes it had: none");
            TugOfWar x = new TugOfWar();
            due("wipe(" + text + ")", x.wipe(text), 0);
            CHECKS.sentence(3, "how many bytes it had: as many as there may be");
            Checks.type(x, text, "x".repeat(40));
            due("wipe(" + text + ") of all", x.wipe(text), ROOM[text]);
            due("wipe(" + text + ") again", x.wipe(text), 0);
            CHECKS.sentence(3, "A text is empty");
            due("fault(" + text + ")", x.fault(text), NONE);
            due("undo(" + text + ")", x.undo(text), NOT);
            due("count(4)", x.count(4), 0);
            CHECKS.sentence(3, "how many bytes it had: with a FAULT, too");
            Checks.type(x, text, "?!");
            due("wipe(" + text + ") of two", x.wipe(text), 2);
        }
    }

    private static void wipeLeavesTheOthers() {
        CHECKS.sentence(3, "A text is empty: no other one, and nothing else");
        int[] counts = {2, 3, 4, 5};
        for (int text = 0; text < 4; text++) {
            TugOfWar x = Checks.teams("h11;h11", "h11;h11;h11", "rrrr", "rrrrr");
            x.mud(4);
            x.event(0, 0, 0);
            x.seen(0, 12);
            x.sheet(0, 0, 7);
            x.wipe(text);
            for (int other = 0; other < 4; other++) {
                due("count(" + other + ")", x.count(other), other == text ? 0 : counts[other]);
            }
            due("count(5)", x.count(5), 1);
            due("count(7)", x.count(7), 1);
            due("lose(0)", x.lose(0), 7);
            due("mud(0)", x.mud(0), 4);
        }
    }

    // ---- 4 undo

    private static void undoGoesDownToNone() {
        for (int text = 0; text < 4; text++) {
            TugOfWar x = new TugOfWar();
            CHECKS.sentence(4, "NOT: it is empty");
            due("undo(" + text + ") of a new one", x.undo(text), NOT);
            Checks.type(x, text, "h".repeat(ROOM[text]));
            CHECKS.sentence(4, "how many are left");
            for (int left = ROOM[text] - 1; left >= 0; left--) {
                due("undo(" + text + ")", x.undo(text), left);
            }
            CHECKS.sentence(4, "NOT: it is empty");
            due("undo(" + text + ") of none", x.undo(text), NOT);
            due("undo(" + text + ") of none, again", x.undo(text), NOT);
            due("type(" + text + ", 104)", x.type(text, 104), 1);
            x.wipe(text);
            due("undo(" + text + ") behind wipe", x.undo(text), NOT);
            due("undo of another one", x.undo(3 - text), NOT);
        }
    }

    private static void undoTakesBackAFault() {
        CHECKS.sentence(4, "The last byte of a text is undone: a FAULT, too");
        TugOfWar x = Checks.teams("h11;h11", "", "rr", "");
        due("type(0, ;)", x.type(0, ';'), 8);
        due("count(0)", x.count(0), 0);
        due("undo(0)", x.undo(0), 7);
        due("count(0)", x.count(0), 2);
        due("undo(0), not ended", x.undo(0), 6);
        due("count(0)", x.count(0), 0);
        due("fault(0)", x.fault(0), 6);
        due("type(2, x)", x.type(2, 'x'), 3);
        due("count(2)", x.count(2), 0);
        due("undo(2)", x.undo(2), 2);
        due("count(2)", x.count(2), 2);
        due("call(0, 1)", x.call(0, 1), 0);
    }
}
