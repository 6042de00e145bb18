/** Promises 31 to 38: sheets, counts and the digest. */
public final class SheetsTest {
    private static final int NULL = -11, INDEX = -12, CAST = -13, STORE = -14, SIZE = -15;
    private static final Checks CHECKS = new Checks("SheetsTest");

    public static void main(String[] args) {
        sheet();
        lose();
        put();
        get();
        copy();
        copyWithin();
        write();
        count();
        digest();
        CHECKS.end();
    }

    private static void due(String call, long got, long want) {
        CHECKS.due(call, got, want);
    }

    private static void sheet() {
        CHECKS.promise(31, "sheet");
        TugOfWar x = new TugOfWar();
        due("sheet(-1, 0, 1)", x.sheet(-1, 0, 1), TugOfWar.BAD);
        due("sheet(4, 0, 1)", x.sheet(4, 0, 1), TugOfWar.BAD);
        due("sheet(0, -1, 1)", x.sheet(0, -1, 1), TugOfWar.BAD);
        due("sheet(0, 3, 1)", x.sheet(0, 3, 1), TugOfWar.BAD);
        due("sheet(0, 0, 61)", x.sheet(0, 0, 61), TugOfWar.BAD);
        due("sheet(4, 0, -1)", x.sheet(4, 0, -1), TugOfWar.BAD);
        due("count(8)", x.count(8), 0);
        due("sheet(0, 0, -1)", x.sheet(0, 0, -1), SIZE);
        due("sheet(0, 0, the least)", x.sheet(0, 0, Integer.MIN_VALUE), SIZE);
        due("count(8)", x.count(8), 5);
        due("lose(0), it is LOST still", x.lose(0), NULL);
        due("sheet(0, 2, 0)", x.sheet(0, 2, 0), 0);
        due("sheet(0, 2, 60)", x.sheet(0, 2, 60), 60);
        x.put(0, 2, 59, 7);
        x.put(0, 2, 0, 8);
        due("sheet(0, 2, -1)", x.sheet(0, 2, -1), SIZE);
        due("get(0, 2, 59), as it was", x.get(0, 2, 59), 7);
        due("sheet(0, 2, 60)", x.sheet(0, 2, 60), 60);
        due("get(0, 2, 59), a new row", x.get(0, 2, 59), 0);
        due("get(0, 2, 0), a new row", x.get(0, 2, 0), 0);
        x.put(0, 2, 1, 5);
        x.put(0, 2, 2, 6);
        due("sheet(0, 1, 3)", x.sheet(0, 1, 3), 3);
        due("get(0, 1, 1)", x.get(0, 1, 1), 0);
        due("get(0, 1, 2)", x.get(0, 1, 2), 0);
        due("lose(1), another one", x.lose(1), NULL);
    }

    private static void lose() {
        CHECKS.promise(32, "lose");
        TugOfWar x = new TugOfWar();
        due("lose(-1)", x.lose(-1), TugOfWar.BAD);
        due("lose(4)", x.lose(4), TugOfWar.BAD);
        due("count(8)", x.count(8), 0);
        due("lose(3)", x.lose(3), NULL);
        due("count(8)", x.count(8), 1);
        x.sheet(3, 0, 17);
        due("lose(3)", x.lose(3), 17);
        due("lose(3)", x.lose(3), NULL);
        x.sheet(3, 0, 0);
        due("lose(3) of no items", x.lose(3), 0);
    }

    private static void put() {
        CHECKS.promise(33, "put");
        TugOfWar x = new TugOfWar();
        due("put(-1, 0, 0, 0)", x.put(-1, 0, 0, 0), TugOfWar.BAD);
        due("put(4, 0, 0, 0)", x.put(4, 0, 0, 0), TugOfWar.BAD);
        due("put(0, -1, 0, 0)", x.put(0, -1, 0, 0), TugOfWar.BAD);
        due("put(0, 3, 0, 0)", x.put(0, 3, 0, 0), TugOfWar.BAD);
        due("put(0, 0, -1, 0) of one that is LOST", x.put(0, 0, -1, 0), NULL);
        x.sheet(0, 0, 2);
        due("put(0, 1, 9, 0)", x.put(0, 1, 9, 0), CAST);
        due("count(8)", x.count(8), 3);
        due("put(0, 0, -1, 0)", x.put(0, 0, -1, 0), INDEX);
        due("put(0, 0, 2, 0)", x.put(0, 0, 2, 0), INDEX);
        due("count(8)", x.count(8), 2);
        int[] values = {127, 128, 255, 256, -1, 40000, Integer.MAX_VALUE, Integer.MIN_VALUE};
        for (int form = 0; form < 3; form++) {
            x.sheet(1, form, 1);
            for (int v : values) {
                due("put(1, " + form + ", 0, " + v + ")", x.put(1, form, 0, v), 1);
                due("what it became", x.get(1, form, 0), form == 0 ? (byte) v : form == 1 ? (short) v : v);
            }
        }
        due("count(8), as it was", x.count(8), 2);
    }

    private static void get() {
        CHECKS.promise(34, "get");
        TugOfWar x = new TugOfWar();
        int least = Integer.MIN_VALUE;
        due("get(-1, 0, 0)", x.get(-1, 0, 0), least);
        due("get(4, 0, 0)", x.get(4, 0, 0), least);
        due("get(0, -1, 0)", x.get(0, -1, 0), least);
        due("get(0, 3, 0)", x.get(0, 3, 0), least);
        due("count(8)", x.count(8), 0);
        due("get(0, 0, 0)", x.get(0, 0, 0), least);
        due("count(8)", x.count(8), 1);
        x.sheet(0, 1, 1);
        x.put(0, 1, 0, 77);
        due("get(0, 0, 5)", x.get(0, 0, 5), least);
        due("count(8)", x.count(8), 3);
        due("get(0, 1, 1)", x.get(0, 1, 1), least);
        due("count(8)", x.count(8), 2);
        due("get(0, 1, -1)", x.get(0, 1, -1), least);
        due("get(0, 1, 0)", x.get(0, 1, 0), 77);
        due("count(8)", x.count(8), 2);
    }

    private static void copy() {
        CHECKS.promise(35, "copy");
        TugOfWar x = new TugOfWar();
        due("copy(-1, 0, 0, 0, 0)", x.copy(-1, 0, 0, 0, 0), TugOfWar.BAD);
        due("copy(0, 0, 4, 0, 0)", x.copy(0, 0, 4, 0, 0), TugOfWar.BAD);
        due("count(8)", x.count(8), 0);
        due("copy(0, 0, 1, 0, 0)", x.copy(0, 0, 1, 0, 0), NULL);
        x.sheet(0, 1, 3);
        due("copy(0, 0, 1, 0, 0)", x.copy(0, 0, 1, 0, 0), NULL);
        due("copy(1, 0, 0, 0, 0)", x.copy(1, 0, 0, 0, 0), NULL);
        x.sheet(1, 0, 2);
        due("copy(0, 0, 1, 0, -1)", x.copy(0, 0, 1, 0, -1), STORE);
        due("count(8)", x.count(8), 4);
        x.sheet(1, 1, 2);
        int most = Integer.MAX_VALUE;
        int[][] wrong = {{-1, 0, 1}, {0, -1, 1}, {0, 0, -1}, {0, 0, 3}, {2, 0, 2}, {4, 0, 0}, {0, 3, 0}, {0, 2, 1},
            {most, 0, 1}, {0, most, 1}, {1, 1, most}, {0, 0, Integer.MIN_VALUE}, {most, most, most}};
        for (int[] w : wrong) {
            due("copy(0, " + w[0] + ", 1, " + w[1] + ", " + w[2] + ")", x.copy(0, w[0], 1, w[1], w[2]), INDEX);
        }
        due("count(8)", x.count(8), 2);
        x.put(0, 1, 1, 500);
        x.put(0, 1, 2, 600);
        due("copy(0, 3, 1, 2, 0)", x.copy(0, 3, 1, 2, 0), 1);
        due("get(1, 1, 0)", x.get(1, 1, 0), 0);
        due("copy(0, 1, 1, 0, 2)", x.copy(0, 1, 1, 0, 2), 1);
        due("get(1, 1, 0)", x.get(1, 1, 0), 500);
        due("get(1, 1, 1)", x.get(1, 1, 1), 600);
        due("get(0, 1, 1), as it was", x.get(0, 1, 1), 500);
    }

    private static void copyWithin() {
        TugOfWar x = new TugOfWar();
        x.sheet(2, 2, 5);
        for (int i = 0; i < 5; i++) {
            x.put(2, 2, i, i + 1);
        }
        due("copy(2, 0, 2, 1, 4)", x.copy(2, 0, 2, 1, 4), 1);
        int[] up = {1, 1, 2, 3, 4};
        for (int i = 0; i < 5; i++) {
            due("get(2, 2, " + i + ")", x.get(2, 2, i), up[i]);
        }
        due("copy(2, 2, 2, 0, 3)", x.copy(2, 2, 2, 0, 3), 1);
        int[] down = {2, 3, 4, 3, 4};
        for (int i = 0; i < 5; i++) {
            due("get(2, 2, " + i + ")", x.get(2, 2, i), down[i]);
        }
    }

    private static void write() {
        CHECKS.promise(36, "write");
        TugOfWar x = Checks.teams("h93", "");
        due("write(-1)", x.write(-1), TugOfWar.BAD);
        due("write(4)", x.write(4), TugOfWar.BAD);
        due("count(8)", x.count(8), 0);
        due("write(0)", x.write(0), NULL);
        due("count(8)", x.count(8), 1);
        x.sheet(0, 0, 0);
        due("write(0) of no items", x.write(0), 0);
        x.sheet(0, 0, 2);
        due("write(0)", x.write(0), 2);
        due("get(0, 0, 0)", x.get(0, 0, 0), 15);
        due("get(0, 0, 1)", x.get(0, 0, 1), 18);
        x.sheet(1, 2, 60);
        for (int i = 0; i < 60; i++) {
            x.put(1, 2, i, -5);
        }
        due("write(1)", x.write(1), 24);
        due("get(1, 2, 2)", x.get(1, 2, 2), 21);
        due("get(1, 2, 23)", x.get(1, 2, 23), 21);
        due("get(1, 2, 24)", x.get(1, 2, 24), -5);
    }

    private static void count() {
        CHECKS.promise(37, "count");
        TugOfWar x = Checks.teams("h91;h11", "l11", "rph", "pp");
        x.event(0, 0, 0);
        x.seen(0, 0);
        x.seen(1, 0);
        x.seen(2, 0);
        x.lose(0);
        // Beat 1: 9 and 1 against 0 (it pulled on beat 0), up by 3.
        int[] due = {2, 1, 3, 2, 15, 1, 15, 3, 1};
        for (int what = 0; what < 9; what++) {
            due("count(" + what + ")", x.count(what), due[what]);
        }
        due("count(6) by the last beat", Checks.teams("h91", "", "rrrrrrrrrrrrrrrrrrrrrrr", "").count(6), 15);
        due("count(-1)", x.count(-1), TugOfWar.BAD);
        due("count(9)", x.count(9), TugOfWar.BAD);
        for (int text = 0; text < 4; text++) {
            x.type(text, 'x');
            due("count(" + text + ") with a fault", x.count(text), 0);
        }
        due("count(4)", x.count(4), 19);
    }

    private static TugOfWar small() {
        TugOfWar x = Checks.teams("h55;a44", "l53;h46");
        x.event(1, 2, 0);
        x.event(0, 4, 9);
        return x;
    }

    private static TugOfWar withAFault() {
        TugOfWar x = small();
        x.type(0, ';');
        return x;
    }

    private static TugOfWar twoEights() {
        TugOfWar x = withAFault();
        Checks.type(x, 0, "h91;l22;a33;h44;l55;a66");
        Checks.type(x, 1, ";a77;h11;l22;h33;a14;a95");
        Checks.type(x, 2, "hrphhrp");
        x.mud(2);
        x.event(2, 1, 0);
        x.seen(4, x.rope(4, 0));
        return x;
    }

    private static void digest() {
        CHECKS.promise(38, "digest");
        due("digest() of a new object", new TugOfWar().digest(), Digest.of(TugOfWar::new));
        due("digest(), from the shared runs", small().digest(), -7335853143557995426L);
        due("digest()", small().digest(), Digest.of(SheetsTest::small));
        due("digest() with a fault", withAFault().digest(), Digest.of(SheetsTest::withAFault));
        due("digest() of two eights", twoEights().digest(), Digest.of(SheetsTest::twoEights));
        digestOfLongOnes();
        TugOfWar x = twoEights();
        long before = x.digest();
        x.lose(0);
        due("digest() after a FINDING", x.digest(), before);
        x.wipe(3);
        x.type(3, 'r');
        due("digest() is another one", x.digest() == before ? 1 : 0, 0);
    }

    /** Neither wins, and all have breath to the end, so that late beats differ. */
    private static TugOfWar longOne() {
        return Checks.teams("h29;l38;a19", "l37;h29;a28", "prrhrprhrrprrhrprrrhrprh", "rprhrprrhrprrhrrprhrrhrp");
    }

    /** One event had better not be, not two. */
    private static TugOfWar withOneToSpare() {
        TugOfWar x = Checks.teams("h99", "h99");
        for (int beat = 0; beat < 4; beat++) {
            x.event(0, beat, 0);
        }
        return x;
    }

    private static void digestOfLongOnes() {
        due("digest() of a long one", longOne().digest(), Digest.of(SheetsTest::longOne));
        due("digest() with something to spare", withOneToSpare().digest(), Digest.of(SheetsTest::withOneToSpare));
        String[] rows = {"a29", "a29;h31", "a29;h31;h32", "a29;h31;h32;h33"};
        for (String row : rows) {
            due("digest() by years", Checks.teams("", row).digest(), Digest.of(() -> Checks.teams("", row)));
        }
    }
}
