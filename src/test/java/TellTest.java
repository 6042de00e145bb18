/** Promises 1 to 11: what is told, and undone. */
public final class TellTest {
    private static final String EIGHT = "h11;l22;a33;h44;l55;a66;h77;l88";
    private static final Checks CHECKS = new Checks("TellTest");

    public static void main(String[] args) {
        newObject();
        type();
        wipe();
        undo();
        fault();
        puller();
        call();
        mud();
        event();
        eventsAct();
        back();
        read();
        CHECKS.end();
    }

    private static void due(String call, long got, long want) {
        CHECKS.due(call, got, want);
    }

    private static void newObject() {
        CHECKS.promise(1, "a new object");
        TugOfWar x = new TugOfWar();
        for (int what = 0; what < 9; what++) {
            due("count(" + what + ")", x.count(what), what == 6 ? 12 : 0);
        }
        for (int beat = 0; beat < 24; beat++) {
            due("call(0, " + beat + ")", x.call(0, beat), 1);
            due("rope(" + beat + ", 0)", x.rope(beat, 0), 12);
            due("rope(" + beat + ", 3)", x.rope(beat, 3), 0);
        }
        for (int p = 0; p < 16; p++) {
            due("puller(" + p + ", 0)", x.puller(p, 0), TugOfWar.BAD);
        }
        due("mud(0)", x.mud(0), 0);
        due("back()", x.back(), TugOfWar.NOT);
        for (int s = 0; s < 4; s++) {
            due("lose(" + s + ")", x.lose(s), -11);
        }
    }

    private static void type() {
        CHECKS.promise(2, "type");
        TugOfWar x = new TugOfWar();
        due("type(-1, 104)", x.type(-1, 104), TugOfWar.BAD);
        due("type(4, 104)", x.type(4, 104), TugOfWar.BAD);
        due("type(0, -1)", x.type(0, -1), TugOfWar.BAD);
        due("type(0, 256)", x.type(0, 256), TugOfWar.BAD);
        due("count(4)", x.count(4), 0);
        due("type(0, 0)", x.type(0, 0), 1);
        due("type(0, 255)", x.type(0, 255), 2);
        int[] most = {31, 31, 24, 24};
        for (int text = 0; text < 4; text++) {
            x.wipe(text);
            for (int n = 1; n <= most[text]; n++) {
                due("type(" + text + ", 112)", x.type(text, 112), n);
            }
            due("type of a full text", x.type(text, 112), TugOfWar.FULL);
            due("type of no byte to a full text", x.type(text, 256), TugOfWar.BAD);
        }
        due("count(4)", x.count(4), 110);
    }

    private static void wipe() {
        CHECKS.promise(3, "wipe");
        TugOfWar x = Checks.teams("h99", "", "r", "");
        due("wipe(-1)", x.wipe(-1), TugOfWar.BAD);
        due("wipe(4)", x.wipe(4), TugOfWar.BAD);
        due("rope(1, 0)", x.rope(1, 0), 15);
        due("wipe(2)", x.wipe(2), 1);
        due("rope(1, 0)", x.rope(1, 0), 18);
        due("wipe(0)", x.wipe(0), 3);
        due("rope(1, 0)", x.rope(1, 0), 12);
        due("wipe(0)", x.wipe(0), 0);
        due("count(4)", x.count(4), 0);
    }

    private static void undo() {
        CHECKS.promise(4, "undo");
        TugOfWar x = Checks.teams("h99;", "", "rh", "");
        due("undo(-1)", x.undo(-1), TugOfWar.BAD);
        due("undo(4)", x.undo(4), TugOfWar.BAD);
        due("undo(1)", x.undo(1), TugOfWar.NOT);
        due("count(0)", x.count(0), 0);
        due("undo(0)", x.undo(0), 3);
        due("count(0)", x.count(0), 1);
        due("undo(2)", x.undo(2), 1);
        due("call(0, 1)", x.call(0, 1), 1);
        due("call(0, 0)", x.call(0, 0), 0);
        due("undo(2)", x.undo(2), 0);
        due("undo(2)", x.undo(2), TugOfWar.NOT);
        due("call(0, 0)", x.call(0, 0), 1);
    }

    private static void fault() {
        CHECKS.promise(5, "fault");
        TugOfWar x = new TugOfWar();
        due("fault(-1)", x.fault(-1), TugOfWar.BAD);
        due("fault(4)", x.fault(4), TugOfWar.BAD);
        String[] teams = {"", "h", "h1", "h11", "h11;", "h11;l", "h11;l9", "h11;l99", "x", "r11", "p11", "H11", "h01",
            "h10", "h:1", "h1/", "h11,", "h111", ";", "h11;;", "h11;x", "h11;a12;h9a", EIGHT};
        int[] faults = {-1, 1, 2, -1, 4, 5, 6, -1, 0, 0, 0, 0, 1, 2, 1, 2, 3, 3, 0, 4, 4, 10, -1};
        for (int text = 0; text < 2; text++) {
            x = new TugOfWar();
            for (int i = 0; i < teams.length; i++) {
                x.wipe(text);
                Checks.type(x, text, teams[i]);
                due("fault of " + teams[i], x.fault(text), faults[i]);
                due("its pullers", x.count(text), faults[i] < 0 ? (teams[i].length() + 1) / 4 : 0);
            }
        }
        String[] calls = {"", "r", "rph", "rpl", "q", "rphrphrphrphrphrphrphrph", "rphrphrphrphrphrphrphrpH", "h1"};
        int[] callFaults = {-1, -1, -1, 2, 0, -1, 23, 1};
        for (int text = 2; text < 4; text++) {
            x = new TugOfWar();
            for (int i = 0; i < calls.length; i++) {
                x.wipe(text);
                Checks.type(x, text, calls[i]);
                due("fault of " + calls[i], x.fault(text), callFaults[i]);
                due("its calls", x.count(text), callFaults[i] < 0 ? calls[i].length() : 0);
            }
        }
    }

    private static void puller() {
        CHECKS.promise(6, "puller");
        TugOfWar x = Checks.teams("h19;l28;a37", EIGHT);
        int[][] due0 = {{0, 1, 9}, {1, 2, 8}, {2, 3, 7}};
        for (int p = 0; p < 3; p++) {
            for (int what = 0; what < 3; what++) {
                due("puller(" + p + ", " + what + ")", x.puller(p, what), due0[p][what]);
            }
        }
        for (int p = 8; p < 16; p++) {
            due("puller(" + p + ", 0)", x.puller(p, 0), (p - 8) % 3);
            due("puller(" + p + ", 1)", x.puller(p, 1), p - 7);
            due("puller(" + p + ", 2)", x.puller(p, 2), p - 7);
        }
        int[] none = {-1, 3, 7, 16, Integer.MAX_VALUE, Integer.MIN_VALUE};
        for (int p : none) {
            due("puller(" + p + ", 0)", x.puller(p, 0), TugOfWar.BAD);
        }
        due("puller(0, -1)", x.puller(0, -1), TugOfWar.BAD);
        due("puller(0, 3)", x.puller(0, 3), TugOfWar.BAD);
        x.type(0, ';');
        due("puller(0, 0) with a fault", x.puller(0, 0), TugOfWar.BAD);
        due("puller(8, 0) of the other team", x.puller(8, 0), 0);
    }

    private static void call() {
        CHECKS.promise(7, "call");
        TugOfWar x = Checks.teams("", "", "rph", "hhrp");
        int[][] told = {{0, 1, 2, 1, 1}, {2, 2, 0, 1, 1}};
        for (int team = 0; team < 2; team++) {
            for (int beat = 0; beat < 5; beat++) {
                due("call(" + team + ", " + beat + ")", x.call(team, beat), told[team][beat]);
            }
            due("call(" + team + ", 23)", x.call(team, 23), 1);
            due("call(" + team + ", 24)", x.call(team, 24), TugOfWar.BAD);
            due("call(" + team + ", -1)", x.call(team, -1), TugOfWar.BAD);
        }
        due("call(-1, 0)", x.call(-1, 0), TugOfWar.BAD);
        due("call(2, 0)", x.call(2, 0), TugOfWar.BAD);
        x.event(2, 2, 0);
        due("call(0, 2), a dog or none", x.call(0, 2), 2);
        x.type(2, 'x');
        due("call(0, 0) with a fault", x.call(0, 0), 1);
        due("call(1, 0)", x.call(1, 0), 2);
    }

    private static void mud() {
        CHECKS.promise(8, "mud");
        TugOfWar x = Checks.teams("h92;l21;a51", "");
        due("mud(-1)", x.mud(-1), TugOfWar.BAD);
        due("mud(10)", x.mud(10), TugOfWar.BAD);
        due("mud(4)", x.mud(4), 0);
        due("at(0, 0, 0)", x.at(0, 0, 0), 5);
        due("at(0, 1, 0)", x.at(0, 1, 0), 0);
        due("at(0, 1, 1)", x.at(0, 1, 1), 0);
        due("at(0, 2, 0), an anchor", x.at(0, 2, 0), 7);
        due("rope(0, 3)", x.rope(0, 3), 4);
        due("mud(9)", x.mud(9), 4);
        due("rope(23, 3)", x.rope(23, 3), 9);
        due("mud(10)", x.mud(10), TugOfWar.BAD);
        due("mud(0)", x.mud(0), 9);
    }

    private static void event() {
        CHECKS.promise(9, "event");
        TugOfWar x = new TugOfWar();
        due("event(-1, 0, 0)", x.event(-1, 0, 0), TugOfWar.BAD);
        due("event(3, 0, 0)", x.event(3, 0, 0), TugOfWar.BAD);
        due("event(0, -1, 0)", x.event(0, -1, 0), TugOfWar.BAD);
        due("event(0, 24, 0)", x.event(0, 24, 0), TugOfWar.BAD);
        for (int kind = 0; kind < 3; kind++) {
            due("event(" + kind + ", 0, -1)", x.event(kind, 0, -1), TugOfWar.BAD);
            due("event(" + kind + ", 0, 16)", x.event(kind, 0, 16), TugOfWar.BAD);
        }
        due("count(5)", x.count(5), 0);
        for (int n = 1; n <= 8; n++) {
            due("event more", x.event(n % 3, n < 5 ? 0 : 23, n < 5 ? 0 : 15), n);
        }
        due("a ninth event", x.event(0, 0, 0), TugOfWar.FULL);
        due("a ninth event that cannot be", x.event(0, 24, 0), TugOfWar.BAD);
        due("count(5)", x.count(5), 8);
    }

    private static void eventsAct() {
        CHECKS.promise(9, "what events do");
        TugOfWar x = Checks.teams("h93;l32;a12", "h91");
        x.event(0, 0, 0);
        due("who slips pulls nothing", x.at(0, 0, 0), 0);
        due("and keeps its breath", x.at(0, 0, 1), 3);
        due("another one pulls", x.at(0, 1, 0), 3);
        due("of the other team too", x.at(0, 8, 0), 9);
        x.event(2, 0, 8);
        due("by a dog nobody pulls", x.at(0, 1, 0), 0);
        due("an anchor holds", x.at(0, 2, 0), 1);
        due("of the other team nobody pulls", x.at(0, 8, 0), 0);
        due("on the next beat they do", x.at(1, 8, 0), 9);
        x.event(0, 0, 2);
        due("an anchor that slips does not hold", x.at(0, 2, 0), 0);
        x.event(1, 2, 7);
        due("mud before the rain", x.rope(1, 3), 0);
        due("mud from the rain on", x.rope(2, 3), 1);
        due("mud later", x.rope(23, 3), 1);
        x.event(1, 2, 0);
        x.mud(8);
        due("two rains and no more than 9", x.rope(2, 3), 9);
        due("mud before the rain", x.rope(1, 3), 8);
        x.event(0, 3, 15);
        due("one who is not there slips", x.count(5), 6);
        restAndSlip();
    }

    private static void restAndSlip() {
        TugOfWar x = Checks.teams("l12", "", "pr", "");
        due("breath by rest", x.at(1, 0, 1), 2);
        x.event(0, 1, 0);
        due("who slips has none more by rest", x.at(1, 0, 1), 1);
    }

    private static void back() {
        CHECKS.promise(10, "back");
        TugOfWar x = Checks.teams("h99", "");
        due("back()", x.back(), TugOfWar.NOT);
        x.event(0, 0, 0);
        x.event(2, 1, 0);
        due("rope(1, 0)", x.rope(1, 0), 12);
        due("back()", x.back(), 1);
        due("rope(1, 0)", x.rope(1, 0), 15);
        due("back()", x.back(), 0);
        due("rope(1, 0)", x.rope(1, 0), 18);
        due("back()", x.back(), TugOfWar.NOT);
        due("event(1, 1, 1)", x.event(1, 1, 1), 1);
    }

    private static void put(TugOfWar x, int s, int form, int... values) {
        x.sheet(s, form, values.length);
        for (int i = 0; i < values.length; i++) {
            x.put(s, form, i, values[i]);
        }
    }

    private static void read() {
        CHECKS.promise(11, "read");
        TugOfWar x = Checks.teams("h99", "");
        due("read(-1)", x.read(-1), TugOfWar.BAD);
        due("read(4)", x.read(4), TugOfWar.BAD);
        due("count(8)", x.count(8), 0);
        due("read(0)", x.read(0), -11);
        due("count(8)", x.count(8), 1);
        x.sheet(0, 0, 0);
        due("read of no items", x.read(0), 0);
        put(x, 0, 2, 0, 0, 0, 2, 1);
        due("read of one and two items of a second", x.read(0), 1);
        due("rope(0, 0)", x.rope(0, 0), 12);
        due("rope(1, 0)", x.rope(1, 0), 15);
        put(x, 1, 1, 2, 1, 0, 1, 24, 0, 2, 2, 0);
        due("read up to one that may not be", x.read(1), 1);
        due("count(5)", x.count(5), 2);
        due("rope(1, 0)", x.rope(1, 0), 12);
        due("rope(2, 0)", x.rope(2, 0), 15);
        put(x, 2, 0, 2, 2, 0, 0, 3, 0);
        due("read of two that are whole", x.read(2), 2);
        due("rope(3, 0)", x.rope(3, 0), 12);
        x.back();
        x.back();
        put(x, 2, 0, -1, 0, 0);
        due("read of one that may not be", x.read(2), 0);
        put(x, 3, 0, 1, 0, 0, 1, 0, 0, 1, 0, 0, 1, 0, 0, 1, 0, 0, 1, 0, 0, 1, 0, 0);
        due("read until there are 8", x.read(3), 6);
        due("count(5)", x.count(5), 8);
        due("read when there are 8", x.read(3), 0);
        due("rope(0, 3)", x.rope(0, 3), 6);
    }
}
