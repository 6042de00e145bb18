import java.math.BigInteger;

/** Promises 24 to 30: what was seen, chances and years. */
public final class SeenTest {
    private static final Checks CHECKS = new Checks("SeenTest");

    public static void main(String[] args) {
        seen();
        forget();
        never();
        wasOfWeight();
        wasOfSort();
        ask();
        chance();
        years();
        CHECKS.end();
    }

    private static void due(String call, long got, long want) {
        CHECKS.due(call, got, want);
    }

    private static void seen() {
        CHECKS.promise(24, "seen");
        TugOfWar x = new TugOfWar();
        due("seen(-1, 0)", x.seen(-1, 0), TugOfWar.BAD);
        due("seen(24, 0)", x.seen(24, 0), TugOfWar.BAD);
        due("seen(0, -1)", x.seen(0, -1), TugOfWar.BAD);
        due("seen(0, 25)", x.seen(0, 25), TugOfWar.BAD);
        due("count(7)", x.count(7), 0);
        for (int n = 1; n <= 8; n++) {
            due("seen more", x.seen(n % 2 * 23, n % 2 * 24), n);
        }
        due("a ninth", x.seen(0, 0), TugOfWar.FULL);
        due("a ninth that cannot be", x.seen(0, 25), TugOfWar.BAD);
        due("count(7)", x.count(7), 8);
    }

    private static void forget() {
        CHECKS.promise(25, "forget");
        TugOfWar x = Checks.teams("h91", "");
        due("forget()", x.forget(), 0);
        x.seen(0, 14);
        x.seen(0, 15);
        due("was(0, 0)", x.was(0, 0), 0);
        due("forget()", x.forget(), 2);
        due("count(7)", x.count(7), 0);
        due("was(0, 0)", x.was(0, 0), 1022);
        due("seen(0, 15)", x.seen(0, 15), 1);
    }

    private static void never() {
        CHECKS.promise(26, "never");
        TugOfWar x = Checks.teams("h99", "");
        due("never() without events", x.never(), 0);
        x.event(0, 0, 0);
        x.event(2, 5, 0);
        due("never() without anything seen", x.never(), 3);
        x.seen(0, 15);
        due("never()", x.never(), 1);
        x.forget();
        x.seen(0, 12);
        due("never()", x.never(), 2);
        x.seen(1, 18);
        due("never()", x.never(), 0);
        due("count(5)", x.count(5), 2);
        for (int n = 0; n < 6; n++) {
            x.event(1, 23, 0);
        }
        x.forget();
        x.seen(23, 24);
        due("never() of eight", x.never(), 255);
    }

    private static void wasOfWeight() {
        CHECKS.promise(27, "was, of weight");
        TugOfWar x = Checks.teams("h51", "h11");
        due("was(0, 0)", x.was(0, 0), 1022);
        x.wipe(1);
        x.seen(0, 13);
        due("was(0, 0)", x.was(0, 0), 1 << 3 | 1 << 4 | 1 << 5);
        x.forget();
        x.seen(0, 15);
        due("was(0, 0)", x.was(0, 0), 1 << 9);
        x.forget();
        x.seen(23, 12);
        due("was(0, 0)", x.was(0, 0), 1 << 1 | 1 << 2);
        due("puller(0, 1), still as told", x.puller(0, 1), 5);
        due("rope(0, 0), too", x.rope(0, 0), 13);
        due("was(-1, 0)", x.was(-1, 0), TugOfWar.BAD);
        due("was(1, 0)", x.was(1, 0), TugOfWar.BAD);
        due("was(8, 0)", x.was(8, 0), TugOfWar.BAD);
        due("was(16, 0)", x.was(16, 0), TugOfWar.BAD);
        due("was(0, -1)", x.was(0, -1), TugOfWar.BAD);
        due("was(0, 2)", x.was(0, 2), TugOfWar.BAD);
    }

    private static void wasOfSort() {
        CHECKS.promise(27, "was, of sort");
        TugOfWar x = Checks.teams("l52", "", "hp", "");
        due("was(0, 1)", x.was(0, 1), 7);
        x.seen(1, 16);
        due("was(0, 1), a heaver has breath left", x.was(0, 1), 1);
        x.forget();
        x.seen(1, 15);
        due("was(0, 1)", x.was(0, 1), 6);
        TugOfWar y = Checks.teams("", "h59;l52", "", "r");
        y.seen(0, 11);
        due("was(9, 1), an anchor holds", y.was(9, 1), 4);
        due("was(8, 1), not if it is not the last", y.was(8, 1), 0);
        y.forget();
        y.seen(0, 12);
        due("was(9, 1)", y.was(9, 1), 3);
        due("was(8, 1)", y.was(8, 1), 7);
        due("puller(9, 0), still as told", y.puller(9, 0), 1);
    }

    private static void ask() {
        CHECKS.promise(28, "ask");
        // Behind each beat three weights leave the rope at one place.
        due("ask(0)", Checks.teams("h91", "").ask(0), 0);
        // Behind beat 0 weights 5 to 9 are alike, behind beat 1 only 6, 7 and 8.
        TugOfWar x = Checks.teams("h92", "", "hp", "");
        due("ask(0)", x.ask(0), 1);
        x.seen(1, 17);
        due("was(0, 0)", x.was(0, 0), 1 << 6 | 1 << 7 | 1 << 8);
        due("ask(0), all alike", x.ask(0), 0);
        x.forget();
        x.seen(0, 14);
        due("was(0, 0)", x.was(0, 0), 1 << 3 | 1 << 4);
        due("ask(0)", x.ask(0), 0);
        x.seen(0, 13);
        due("ask(0), nothing fits", x.ask(0), 0);
        due("ask(-1)", x.ask(-1), TugOfWar.BAD);
        due("ask(1)", x.ask(1), TugOfWar.BAD);
        due("ask(8)", x.ask(8), TugOfWar.BAD);
        due("ask(16)", x.ask(16), TugOfWar.BAD);
        // Behind beat 0 weights 7 to 9 are alike; behind beat 1 the rope has gone on by 8 and 9, not by 7.
        TugOfWar y = Checks.teams("h92", "", "hp", "");
        y.seen(0, 15);
        y.mud(5);
        due("was(0, 0)", y.was(0, 0), 1 << 7 | 1 << 8 | 1 << 9);
        due("ask(0), 7 is apart from 8 and 9", y.ask(0), 1);
        TugOfWar z = Checks.teams("l12", "", "ph", "");
        z.seen(0, 12);
        due("was(0, 0)", z.was(0, 0), 1 << 1 | 1 << 2);
        due("ask(0), 1 is alike with 2", z.ask(0), 0);
        due("ask(8) of team 1", Checks.teams("", "h92", "", "hp").ask(8), 1);
    }

    private static void chance(TugOfWar x, int c, int team, long above, long below) {
        due("chance(" + c + ", " + team + ", 0)", x.chance(c, team, 0), above);
        due("chance(" + c + ", " + team + ", 1)", x.chance(c, team, 1), below);
    }

    private static void chance() {
        CHECKS.promise(29, "chance");
        // Four pulls by 9 are enough, four by 8 in the rain are not.
        TugOfWar x = Checks.teams("h94", "");
        chance(x, 5, 0, 1, 1);
        chance(x, 5, 1, 0, 1);
        x.event(1, 0, 0);
        chance(x, 5, 0, 11, 16);
        chance(x, 4, 0, 3, 4);
        chance(x, 0, 0, 1, 1);
        chance(x, 16, 0, 0, 1);
        chance(x, 5, 1, 0, 1);
        x.event(1, 0, 0);
        chance(x, 5, 0, 121, 256);
        chance(x, 8, 0, 1, 4);
        for (int n = 0; n < 6; n++) {
            x.event(1, n % 2, 0);
        }
        chance(x, 5, 0, 214358881L, 4294967296L);
        chance(x, 15, 0, 1, 4294967296L);
        chance(x, 8, 0, 1, 256);
        chance(x, 16, 0, 0, 1);
        for (int n = 0; n < 7; n++) {
            x.back();
        }
        chance(x, 5, 0, 11, 16);
        chance(Checks.teams("", "h99"), 16, 1, 1, 1);
        due("chance(-1, 0, 0)", x.chance(-1, 0, 0), Long.MIN_VALUE + 2);
        due("chance(17, 0, 0)", x.chance(17, 0, 0), Long.MIN_VALUE + 2);
        due("chance(0, -1, 0)", x.chance(0, -1, 0), Long.MIN_VALUE + 2);
        due("chance(0, 2, 0)", x.chance(0, 2, 0), Long.MIN_VALUE + 2);
        due("chance(0, 0, -1)", x.chance(0, 0, -1), Long.MIN_VALUE + 2);
        due("chance(0, 0, 2)", x.chance(0, 0, 2), Long.MIN_VALUE + 2);
        chanceSeesChanges();
    }

    private static void chanceSeesChanges() {
        TugOfWar x = Checks.teams("h94", "");
        x.event(1, 0, 0);
        chance(x, 4, 0, 3, 4);
        x.undo(0);
        x.type(0, '3');
        chance(x, 4, 0, 0, 1);
        x.wipe(0);
        Checks.type(x, 0, "h99");
        chance(x, 4, 0, 1, 1);
        x.mud(9);
        chance(x, 4, 0, 0, 1);
        x.mud(0);
        Checks.type(x, 2, "rrrrrrrrrrrrrrrrrrrrrrrr");
        chance(x, 4, 0, 0, 1);
    }

    /** The lots as another kind of number tells them, held against what they do as calls. */
    private static void yearsByLots() {
        for (int seed = -20; seed < 20; seed++) {
            StringBuilder calls = new StringBuilder();
            BigInteger lot = BigInteger.valueOf(seed);
            for (int i = 0; i < 24; i++) {
                lot = lot.multiply(BigInteger.valueOf(1103515245)).add(BigInteger.valueOf(12345))
                    .mod(BigInteger.ONE.shiftLeft(32));
                calls.append("rph".charAt(lot.shiftRight(16).mod(BigInteger.valueOf(3)).intValue()));
            }
            for (int n = 0; n <= 24; n++) {
                TugOfWar told = Checks.teams("h34;a23", "l39;a14", "hpr", calls.substring(0, n));
                TugOfWar other = Checks.teams("h34;a23", "l39;a14", "hpr", "hhh");
                due("years(" + seed + ", " + n + ", 0)", other.years(seed, n, 0), told.rope(23, 0));
                due("years(" + seed + ", " + n + ", 1)", other.years(seed, n, 1), told.won(0));
            }
        }
    }

    private static void years() {
        CHECKS.promise(30, "years");
        // The first lots: of seed 1 a heave, of seed 0 a rest, of seed -1 a pull.
        TugOfWar x = Checks.teams("", "h22", "", "rrrrrrrrrrrrrrrrrrrrrrrr");
        due("years(1, 0, 0), all pulls", x.years(1, 0, 0), 12);
        due("years(1, 1, 0), a heave", x.years(1, 1, 0), 11);
        TugOfWar y = Checks.teams("", "a31");
        due("years(0, 0, 0)", y.years(0, 0, 0), 11);
        due("years(0, 1, 0), it holds first", y.years(0, 1, 0), 10);
        due("years(-1, 1, 0), it pulls", y.years(-1, 1, 0), 11);
        due("rope(23, 0), still as told", y.rope(23, 0), 11);
        yearsByLots();
        TugOfWar z = Checks.teams("h99", "");
        due("years(5, 24, 0)", z.years(5, 24, 0), 24);
        due("years(5, 24, 1)", z.years(5, 24, 1), 0);
        due("years(5, 0, 1)", Checks.teams("", "h99").years(5, 0, 1), 1);
        due("years(5, 0, 1)", Checks.teams("", "h11").years(5, 0, 1), TugOfWar.NONE);
        due("years(0, -1, 0)", x.years(0, -1, 0), TugOfWar.BAD);
        due("years(0, 25, 0)", x.years(0, 25, 0), TugOfWar.BAD);
        due("years(0, 0, -1)", x.years(0, 0, -1), TugOfWar.BAD);
        due("years(0, 0, 2)", x.years(0, 0, 2), TugOfWar.BAD);
    }
}
