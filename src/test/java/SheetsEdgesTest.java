/** Promises 31 to 38: each sentence of the document that names an edge, by itself. */
public final class SheetsEdgesTest {
    private static final int BAD = -2;
    private static final int NULL = -11, INDEX = -12, CAST = -13, STORE = -14, SIZE = -15;
    private static final int LEAST = Integer.MIN_VALUE, MOST = Integer.MAX_VALUE;
    private static final Checks CHECKS = new Checks("SheetsEdgesTest");

    public static void main(String[] args) {
        sheetsOf0To60Items();
        sheetsAbove60Below0();
        aNewRow();
        sheetsByThemselves();
        loseTellsHowManyThereWere();
        anEmptySheetIsNotLost();
        putFromTheFirstToTheLast();
        putTheLowestBits();
        putInOrder();
        getTheLeastInt();
        getInOrder();
        copyOfNoItems();
        copyOfAllItems();
        copyOfTooMany();
        copyOntoItself();
        copyInOrder();
        writeAsManyAsThereAre();
        writeWhereTheRopeIs();
        countsFrom0To8();
        countOfTheLatestFinding();
        countWithoutAFault();
        digestWraps();
        digestOnBeats();
        digestOfPlans();
        digestOfWhatIsTold();
        CHECKS.end();
    }

    private static void due(String call, long got, long want) {
        CHECKS.due(call, got, want);
    }

    /** SHEET s, of a FORM, with items 1, 2, 3 .. */
    private static TugOfWar with(TugOfWar x, int s, int form, int n) {
        x.sheet(s, form, n);
        for (int i = 0; i < n; i++) {
            x.put(s, form, i, i + 1);
        }
        return x;
    }

    private static void items(TugOfWar x, int s, int form, int... due) {
        for (int i = 0; i < due.length; i++) {
            due("get(" + s + ", " + form + ", " + i + ")", x.get(s, form, i), due[i]);
        }
    }

    // ---- 31 sheet

    private static void sheetsOf0To60Items() {
        CHECKS.sentence(31, "of 0 to 60 items (0 at first): n");
        for (int form = 0; form < 3; form++) {
            for (int n = 0; n <= 60; n++) {
                TugOfWar x = new TugOfWar();
                due("sheet(0, " + form + ", " + n + ")", x.sheet(0, form, n), n);
                for (int i = 0; i < n; i++) {
                    due("get(0, " + form + ", " + i + ")", x.get(0, form, i), 0);
                }
                due("count(8)", x.count(8), 0);
                due("put at its end", x.put(0, form, n, 1), INDEX);
                due("put ahead of it", x.put(0, form, -1, 1), INDEX);
                due("lose(0)", x.lose(0), n);
            }
        }
    }

    private static void sheetsAbove60Below0() {
        for (int s = 0; s < 4; s++) {
            TugOfWar x = new TugOfWar();
            CHECKS.sentence(31, "BAD: above 60");
            due("sheet(" + s + ", 0, 61)", x.sheet(s, 0, 61), BAD);
            due("sheet(" + s + ", 2, the most)", x.sheet(s, 2, MOST), BAD);
            due("count(8)", x.count(8), 0);
            CHECKS.sentence(31, "SIZE: below 0");
            due("sheet(" + s + ", 1, -1)", x.sheet(s, 1, -1), SIZE);
            due("count(8)", x.count(8), 5);
            due("sheet(" + s + ", 1, the least)", x.sheet(s, 1, LEAST), SIZE);
            due("lose(" + s + "), LOST still", x.lose(s), NULL);
            CHECKS.sentence(31, "BAD: SHEET, FORM; SIZE: in this order");
            due("sheet(4, 0, -1)", x.sheet(4, 0, -1), BAD);
            due("sheet(-1, 0, -1)", x.sheet(-1, 0, -1), BAD);
            due("sheet(" + s + ", 3, -1)", x.sheet(s, 3, -1), BAD);
            due("sheet(" + s + ", -1, -1)", x.sheet(s, -1, -1), BAD);
            due("count(8)", x.count(8), 1);
            CHECKS.sentence(31, "refused: the row is as it was");
            with(x, s, 1, 2);
            due("sheet(" + s + ", 0, 61)", x.sheet(s, 0, 61), BAD);
            due("sheet(" + s + ", 0, -1)", x.sheet(s, 0, -1), SIZE);
            items(x, s, 1, 1, 2);
            due("lose(" + s + ")", x.lose(s), 2);
        }
    }

    private static void aNewRow() {
        CHECKS.sentence(31, "A SHEET is a new row: 0 at first, whatever was there");
        for (int form = 0; form < 3; form++) {
            for (int other = 0; other < 3; other++) {
                TugOfWar x = with(new TugOfWar(), 2, form, 60);
                due("sheet(2, " + other + ", 5)", x.sheet(2, other, 5), 5);
                items(x, 2, other, 0, 0, 0, 0, 0);
                due("put(2, " + other + ", 5, 1)", x.put(2, other, 5, 1), INDEX);
                due("sheet(2, " + other + ", 60)", x.sheet(2, other, 60), 60);
                for (int i = 0; i < 60; i += 59) {
                    due("get(2, " + other + ", " + i + ")", x.get(2, other, i), 0);
                }
                with(x, 2, form, 3);
                x.lose(2);
                x.sheet(2, form, 3);
                items(x, 2, form, 0, 0, 0);
            }
        }
    }

    private static void sheetsByThemselves() {
        CHECKS.sentence(31, "SHEETS 0 .. 3: each by itself");
        for (int s = 0; s < 4; s++) {
            TugOfWar x = new TugOfWar();
            for (int t = 0; t < 4; t++) {
                with(x, t, t % 3, 60);
            }
            x.sheet(s, 2, 7);
            for (int t = 0; t < 4; t++) {
                due("get(" + t + ", 0)", x.get(t, t == s ? 2 : t % 3, 0), t == s ? 0 : 1);
                if (t != s) {
                    due("get(" + t + ", 59)", x.get(t, t % 3, 59), 60);
                }
                due("lose(" + t + ")", x.lose(t), t == s ? 7 : 60);
            }
        }
    }

    // ---- 32 lose

    private static void loseTellsHowManyThereWere() {
        for (int s = 0; s < 4; s++) {
            TugOfWar x = new TugOfWar();
            CHECKS.sentence(32, "NULL");
            due("lose(" + s + ")", x.lose(s), NULL);
            due("count(8)", x.count(8), 1);
            CHECKS.sentence(32, "It is LOST: how many items it had");
            for (int t = 0; t < 4; t++) {
                x.sheet(t, t % 3, 60 - t);
            }
            due("lose(" + s + ")", x.lose(s), 60 - s);
            due("lose(" + s + ") again", x.lose(s), NULL);
            due("put(" + s + ", 0, 0, 0)", x.put(s, 0, 0, 0), NULL);
            due("write(" + s + ")", x.write(s), NULL);
            due("read(" + s + ")", x.read(s), NULL);
            CHECKS.sentence(32, "It is LOST: no other one");
            for (int t = 0; t < 4; t++) {
                due("write(" + t + ")", x.write(t), t == s ? NULL : 24);
            }
        }
    }

    private static void anEmptySheetIsNotLost() {
        CHECKS.sentence(32, "how many items it had: none, and it is not LOST yet");
        for (int form = 0; form < 3; form++) {
            TugOfWar x = new TugOfWar();
            due("sheet(1, " + form + ", 0)", x.sheet(1, form, 0), 0);
            due("read(1)", x.read(1), 0);
            due("write(1)", x.write(1), 0);
            due("copy(1, 0, 1, 0, 0)", x.copy(1, 0, 1, 0, 0), 1);
            due("put(1, " + form + ", 0, 0)", x.put(1, form, 0, 0), INDEX);
            due("put(1, another, 0, 0)", x.put(1, (form + 1) % 3, 0, 0), CAST);
            due("lose(1)", x.lose(1), 0);
            due("lose(1)", x.lose(1), NULL);
        }
    }

    // ---- 33 put

    private static void putFromTheFirstToTheLast() {
        CHECKS.sentence(33, "Item i becomes v: 1; the first, the last, no other one");
        for (int form = 0; form < 3; form++) {
            TugOfWar x = new TugOfWar();
            x.sheet(3, form, 5);
            due("put(3, " + form + ", 4, 9)", x.put(3, form, 4, 9), 1);
            items(x, 3, form, 0, 0, 0, 0, 9);
            due("put(3, " + form + ", 0, 8)", x.put(3, form, 0, 8), 1);
            items(x, 3, form, 8, 0, 0, 0, 9);
            CHECKS.sentence(33, "INDEX: there is no such item");
            due("put(3, " + form + ", 5, 7)", x.put(3, form, 5, 7), INDEX);
            due("put(3, " + form + ", -1, 7)", x.put(3, form, -1, 7), INDEX);
            due("put(3, " + form + ", the most, 7)", x.put(3, form, MOST, 7), INDEX);
            due("put(3, " + form + ", the least, 7)", x.put(3, form, LEAST, 7), INDEX);
            items(x, 3, form, 8, 0, 0, 0, 9);
        }
    }

    private static void putTheLowestBits() {
        CHECKS.sentence(33, "becomes v (the lowest bits that it has): bytes");
        becomes(0, 127, 127);
        becomes(0, 128, -128);
        becomes(0, 255, -1);
        becomes(0, 256, 0);
        becomes(0, -128, -128);
        becomes(0, -129, 127);
        becomes(0, -256, 0);
        becomes(0, MOST, -1);
        becomes(0, LEAST, 0);
        CHECKS.sentence(33, "becomes v (the lowest bits that it has): shorts");
        becomes(1, 128, 128);
        becomes(1, 32767, 32767);
        becomes(1, 32768, -32768);
        becomes(1, 65535, -1);
        becomes(1, 65536, 0);
        becomes(1, -32768, -32768);
        becomes(1, -32769, 32767);
        becomes(1, MOST, -1);
        becomes(1, LEAST, 0);
        CHECKS.sentence(33, "becomes v (the lowest bits that it has): ints, all of them");
        becomes(2, 32768, 32768);
        becomes(2, 65536, 65536);
        becomes(2, MOST, MOST);
        becomes(2, LEAST, LEAST);
        becomes(2, -1, -1);
    }

    private static void becomes(int form, int v, int due) {
        TugOfWar x = new TugOfWar();
        x.sheet(0, form, 1);
        due("put(0, " + form + ", 0, " + v + ")", x.put(0, form, 0, v), 1);
        due("what it became", x.get(0, form, 0), due);
        due("count(8)", x.count(8), 0);
    }

    private static void putInOrder() {
        CHECKS.sentence(33, "BAD; NULL; CAST; INDEX: in this order");
        TugOfWar x = new TugOfWar();
        due("put(4, 3, -1, 0)", x.put(4, 3, -1, 0), BAD);
        due("put(0, 3, -1, 0) of a LOST one", x.put(0, 3, -1, 0), BAD);
        due("put(0, 2, -1, 0) of a LOST one", x.put(0, 2, -1, 0), NULL);
        x.sheet(0, 1, 2);
        due("put(0, 2, -1, 0) of another FORM", x.put(0, 2, -1, 0), CAST);
        due("put(0, 0, 2, 0) of another FORM", x.put(0, 0, 2, 0), CAST);
        due("put(0, 0, 0, 0) of another FORM", x.put(0, 0, 0, 0), CAST);
        due("put(0, 1, -1, 0)", x.put(0, 1, -1, 0), INDEX);
        due("put(0, 1, 0, 0)", x.put(0, 1, 0, 0), 1);
    }

    // ---- 34 get

    private static void getTheLeastInt() {
        CHECKS.sentence(34, "Item i of it: it may be the least int itself (count() 8 tells)");
        TugOfWar x = new TugOfWar();
        x.sheet(0, 2, 2);
        x.put(0, 2, 1, LEAST);
        due("get(0, 2, 1)", x.get(0, 2, 1), LEAST);
        due("count(8)", x.count(8), 0);
        due("get(0, 2, 2)", x.get(0, 2, 2), LEAST);
        due("count(8)", x.count(8), 2);
        CHECKS.sentence(34, "BAD: the least int, and count() 8 is as it was");
        due("get(4, 2, 1)", x.get(4, 2, 1), LEAST);
        due("get(-1, 2, 1)", x.get(-1, 2, 1), LEAST);
        due("get(0, 3, 1)", x.get(0, 3, 1), LEAST);
        due("get(0, -1, 1)", x.get(0, -1, 1), LEAST);
        due("count(8)", x.count(8), 2);
    }

    private static void getFinds(TugOfWar x, int s, int form, int i, int finding) {
        x.sheet(0, 0, -1);
        due("get(" + s + ", " + form + ", " + i + ")", x.get(s, form, i), LEAST);
        due("count(8)", x.count(8), finding);
    }

    private static void getInOrder() {
        CHECKS.sentence(34, "NULL, CAST, INDEX: in this order");
        TugOfWar x = new TugOfWar();
        getFinds(x, 1, 2, -1, 1);
        getFinds(x, 1, 2, 0, 1);
        getFinds(x, 1, 3, 0, 5);
        x.sheet(1, 0, 2);
        getFinds(x, 1, 2, -1, 3);
        getFinds(x, 1, 1, 2, 3);
        getFinds(x, 1, 1, 0, 3);
        getFinds(x, 1, 0, -1, 2);
        getFinds(x, 1, 0, 2, 2);
        getFinds(x, 1, 0, MOST, 2);
        getFinds(x, 1, 0, LEAST, 2);
        x.sheet(0, 0, -1);
        due("get(1, 0, 1)", x.get(1, 0, 1), 0);
        due("count(8)", x.count(8), 5);
    }

    // ---- 35 copy

    private static void copyOfNoItems() {
        CHECKS.sentence(35, "n items: none, at the end too");
        for (int form = 0; form < 3; form++) {
            TugOfWar x = with(with(new TugOfWar(), 0, form, 3), 1, form, 2);
            due("copy(0, 0, 1, 0, 0)", x.copy(0, 0, 1, 0, 0), 1);
            due("copy(0, 3, 1, 2, 0)", x.copy(0, 3, 1, 2, 0), 1);
            due("copy(1, 2, 1, 2, 0)", x.copy(1, 2, 1, 2, 0), 1);
            due("copy(0, 4, 1, 0, 0)", x.copy(0, 4, 1, 0, 0), INDEX);
            due("copy(0, 0, 1, 3, 0)", x.copy(0, 0, 1, 3, 0), INDEX);
            items(x, 0, form, 1, 2, 3);
            items(x, 1, form, 1, 2);
        }
    }

    private static void copyOfAllItems() {
        CHECKS.sentence(35, "n items of SHEET s, from i on, come to SHEET t, from j on: all, the last, no others");
        for (int form = 0; form < 3; form++) {
            TugOfWar x = with(new TugOfWar(), 0, form, 4);
            x.sheet(3, form, 4);
            due("copy(0, 3, 3, 3, 1)", x.copy(0, 3, 3, 3, 1), 1);
            items(x, 3, form, 0, 0, 0, 4);
            due("copy(0, 0, 3, 0, 1)", x.copy(0, 0, 3, 0, 1), 1);
            items(x, 3, form, 1, 0, 0, 4);
            due("copy(0, 2, 3, 1, 2)", x.copy(0, 2, 3, 1, 2), 1);
            items(x, 3, form, 1, 3, 4, 4);
            due("copy(0, 0, 3, 0, 4)", x.copy(0, 0, 3, 0, 4), 1);
            items(x, 3, form, 1, 2, 3, 4);
            items(x, 0, form, 1, 2, 3, 4);
            x.put(3, form, 0, 9);
            due("get(0), each its own", x.get(0, form, 0), 1);
        }
        CHECKS.sentence(35, "n items: 60 of 60");
        TugOfWar y = with(new TugOfWar(), 2, 0, 60);
        y.sheet(3, 0, 60);
        due("copy(2, 0, 3, 0, 60)", y.copy(2, 0, 3, 0, 60), 1);
        due("get(3, 0, 0)", y.get(3, 0, 0), 1);
        due("get(3, 0, 59)", y.get(3, 0, 59), 60);
    }

    private static void copyOfTooMany() {
        CHECKS.sentence(35, "INDEX: below 0, not so many; nothing comes");
        int[][] wrong = {{-1, 0, 1}, {0, -1, 1}, {0, 0, -1}, {-1, 0, 0}, {0, -1, 0}, {0, 0, 4}, {1, 0, 3}, {3, 0, 1},
            {0, 1, 3}, {0, 3, 1}, {0, 2, 2}, {2, 0, 2}, {-1, 0, 2}, {0, -1, 2}, {-1, -1, -1}, {2, 2, -1},
            {MOST, 0, 1}, {0, MOST, 1}, {0, 0, MOST}, {1, 0, MOST}, {0, 1, MOST}, {MOST, MOST, MOST}, {MOST, 0, 2},
            {LEAST, 0, 1}, {0, LEAST, 1}, {0, 0, LEAST}, {LEAST, LEAST, LEAST}, {MOST, 0, LEAST}, {3, 3, LEAST}};
        for (int[] w : wrong) {
            TugOfWar x = with(new TugOfWar(), 0, 1, 3);
            x.sheet(1, 1, 3);
            due("copy(0, " + w[0] + ", 1, " + w[1] + ", " + w[2] + ")", x.copy(0, w[0], 1, w[1], w[2]), INDEX);
            due("count(8)", x.count(8), 2);
            items(x, 0, 1, 1, 2, 3);
            items(x, 1, 1, 0, 0, 0);
        }
    }

    private static void copyOntoItself() {
        CHECKS.sentence(35, "perhaps s, as they were");
        for (int form = 0; form < 3; form++) {
            TugOfWar up = with(new TugOfWar(), 1, form, 5);
            due("copy(1, 0, 1, 1, 4)", up.copy(1, 0, 1, 1, 4), 1);
            items(up, 1, form, 1, 1, 2, 3, 4);
            TugOfWar down = with(new TugOfWar(), 1, form, 5);
            due("copy(1, 1, 1, 0, 4)", down.copy(1, 1, 1, 0, 4), 1);
            items(down, 1, form, 2, 3, 4, 5, 5);
            TugOfWar same = with(new TugOfWar(), 1, form, 5);
            due("copy(1, 0, 1, 0, 5)", same.copy(1, 0, 1, 0, 5), 1);
            items(same, 1, form, 1, 2, 3, 4, 5);
            due("copy(1, 0, 1, 1, 5)", same.copy(1, 0, 1, 1, 5), INDEX);
            items(same, 1, form, 1, 2, 3, 4, 5);
        }
    }

    private static void copyInOrder() {
        CHECKS.sentence(35, "BAD: the SHEETS; NULL: s, t; STORE; INDEX: in this order");
        TugOfWar x = new TugOfWar();
        due("copy(4, -1, 0, -1, -1)", x.copy(4, -1, 0, -1, -1), BAD);
        due("copy(0, -1, 4, -1, -1)", x.copy(0, -1, 4, -1, -1), BAD);
        due("copy(0, -1, -1, -1, -1)", x.copy(0, -1, -1, -1, -1), BAD);
        due("count(8)", x.count(8), 0);
        due("copy(0, -1, 1, -1, -1), both LOST", x.copy(0, -1, 1, -1, -1), NULL);
        x.sheet(0, 2, 3);
        due("copy(0, -1, 1, -1, -1), t LOST", x.copy(0, -1, 1, -1, -1), NULL);
        due("copy(1, -1, 0, -1, -1), s LOST", x.copy(1, -1, 0, -1, -1), NULL);
        x.sheet(1, 0, 3);
        due("copy(0, -1, 1, -1, -1), unlike FORMS", x.copy(0, -1, 1, -1, -1), STORE);
        due("copy(1, 0, 0, 0, 0), unlike FORMS", x.copy(1, 0, 0, 0, 0), STORE);
        due("count(8)", x.count(8), 4);
        x.sheet(1, 2, 3);
        due("copy(0, -1, 1, -1, -1), like FORMS", x.copy(0, -1, 1, -1, -1), INDEX);
        due("copy(0, 0, 1, 0, 3)", x.copy(0, 0, 1, 0, 3), 1);
        due("count(8)", x.count(8), 2);
    }

    // ---- 36 write

    private static void writeAsManyAsThereAre() {
        CHECKS.sentence(36, "from item 0 on, as many as there are items, 24 at most: how many");
        for (int form = 0; form < 3; form++) {
            for (int n = 0; n <= 60; n++) {
                TugOfWar x = Checks.teams("h99", "");
                x.sheet(0, form, n);
                for (int i = 0; i < n; i++) {
                    x.put(0, form, i, -7);
                }
                due("write(0) of " + n, x.write(0), Math.min(24, n));
                for (int i = 0; i < n; i++) {
                    int place = i == 0 ? 15 : i == 1 ? 18 : i == 2 ? 21 : 24;
                    due("get(0, " + form + ", " + i + ")", x.get(0, form, i), i < 24 ? place : -7);
                }
                due("lose(0), as many as ahead", x.lose(0), n);
            }
        }
    }

    private static void writeWhereTheRopeIs() {
        CHECKS.sentence(36, "Where the ROPE is behind BEATS 0 on: each of 24");
        for (int beat = 0; beat < 24; beat++) {
            TugOfWar x = Checks.teams("", "h91", "", "r".repeat(beat) + "p" + "r".repeat(23 - beat));
            x.sheet(3, beat % 3, 30);
            due("write(3)", x.write(3), 24);
            for (int b = 0; b < 24; b++) {
                due("get(3, " + b + ")", x.get(3, beat % 3, b), b < beat ? 12 : 9);
            }
            due("get(3, 24)", x.get(3, beat % 3, 24), 0);
        }
        CHECKS.sentence(36, "write: BAD; NULL");
        due("write(4)", new TugOfWar().write(4), BAD);
        due("write(-1)", new TugOfWar().write(-1), BAD);
        due("write(0)", new TugOfWar().write(0), NULL);
    }

    // ---- 37 count

    private static void countsFrom0To8() {
        CHECKS.sentence(37, "count: the least of each");
        TugOfWar x = new TugOfWar();
        for (int what = 0; what < 9; what++) {
            due("count(" + what + ")", x.count(what), what == 6 ? 12 : 0);
        }
        due("count(-1)", x.count(-1), BAD);
        due("count(9)", x.count(9), BAD);
        CHECKS.sentence(37, "count: the greatest of each");
        TugOfWar y = States.FULL.make();
        int[] most = {8, 8, 24, 24, 110, 8};
        for (int what = 0; what < 6; what++) {
            due("count(" + what + ")", y.count(what), most[what]);
        }
        due("count(7)", y.count(7), 8);
        CHECKS.sentence(37, "where the ROPE is behind BEAT 23");
        due("count(6), 24", Checks.teams("h99", "").count(6), 24);
        due("count(6), 0", Checks.teams("", "h99").count(6), 0);
        due("count(6), by beat 23", Checks.teams("", "h91", "", "r".repeat(23)).count(6), 9);
    }

    private static void countOfTheLatestFinding() {
        CHECKS.sentence(37, "the number of the latest FINDING (0 before any)");
        TugOfWar x = new TugOfWar();
        due("count(8)", x.count(8), 0);
        x.type(4, 0);
        x.undo(0);
        x.back();
        x.sheet(0, 0, 61);
        x.get(0, 3, 0);
        due("count(8), BAD and NOT are none", x.count(8), 0);
        x.sheet(1, 1, 1);
        x.sheet(2, 2, 1);
        due("lose(0)", x.lose(0), NULL);
        due("count(8)", x.count(8), 1);
        due("put(1, 1, 1, 0)", x.put(1, 1, 1, 0), INDEX);
        due("count(8)", x.count(8), 2);
        due("put(1, 0, 1, 0)", x.put(1, 0, 1, 0), CAST);
        due("count(8)", x.count(8), 3);
        due("copy(1, 0, 2, 0, 1)", x.copy(1, 0, 2, 0, 1), STORE);
        due("count(8)", x.count(8), 4);
        due("sheet(1, 1, -1)", x.sheet(1, 1, -1), SIZE);
        due("count(8)", x.count(8), 5);
        due("put(1, 1, 0, 3)", x.put(1, 1, 0, 3), 1);
        due("get(1, 1, 0)", x.get(1, 1, 0), 3);
        due("write(1)", x.write(1), 1);
        due("sheet(3, 0, 60)", x.sheet(3, 0, 60), 60);
        due("lose(3)", x.lose(3), 60);
        due("put(5, 0, 0, 0)", x.put(5, 0, 0, 0), BAD);
        due("count(8), as it was", x.count(8), 5);
        due("read(0)", x.read(0), NULL);
        due("count(8), the latest", x.count(8), 1);
    }

    private static void countWithoutAFault() {
        CHECKS.sentence(37, "CALLS told (without a FAULT); bytes of all texts");
        for (int text = 0; text < 4; text++) {
            TugOfWar x = Checks.teams("h11;h11", "h11", "rph", "rp");
            int[] counts = {2, 1, 3, 2};
            x.type(text, '!');
            for (int what = 0; what < 4; what++) {
                due("count(" + what + ")", x.count(what), what == text ? 0 : counts[what]);
            }
            due("count(4), with its bytes", x.count(4), 7 + 3 + 3 + 2 + 1);
        }
    }

    // ---- 38 digest

    private static void digestWraps() {
        CHECKS.sentence(38, "h is 17; h becomes 31 h and each of ..., as longs that wrap");
        for (States state : States.values()) {
            due(state + ": digest()", state.make().digest(), Digest.of(state::make));
        }
        CHECKS.sentence(38, "of PULLERS that there are, by numbers: none, one, all of one TEAM");
        for (int n = 0; n <= 8; n++) {
            String row = Checks.row("l43", n);
            due("digest() of " + n, Checks.teams(row, "h52").digest(), Digest.of(() -> Checks.teams(row, "h52")));
            due("digest() of " + n, Checks.teams("", row).digest(), Digest.of(() -> Checks.teams("", row)));
        }
    }

    /** Each BEAT differs from those beside it, up to the last one. */
    private static TugOfWar upToTheLastBeat() {
        return Checks.teams("h29;l38;a19", "l37;h29;a28", "prrhrprhrrprrhrprrrhrprh", "rprhrprrhrprrhrrprhrrhrp");
    }

    /** On each side of the BEATS that it asks a PULLER about. */
    private static TugOfWar pullingOn(int beat) {
        return Checks.teams("h12", "l12", "r".repeat(beat) + "p" + "r".repeat(23 - beat), "r".repeat(24));
    }

    private static void digestOnBeats() {
        CHECKS.sentence(38, "of BEATS 0 to 23; of BEATS 0, 5, 12, 23");
        due("digest()", upToTheLastBeat().digest(), Digest.of(SheetsEdgesTest::upToTheLastBeat));
        for (int beat = 0; beat < 24; beat++) {
            int b = beat;
            due("digest(), a pull on " + b, pullingOn(b).digest(), Digest.of(() -> pullingOn(b)));
        }
    }

    private static TugOfWar withEvents(String team0, String team1, String calls0, int[]... events) {
        TugOfWar x = Checks.teams(team0, team1, calls0, "");
        for (int[] e : events) {
            x.event(e[0], e[1], e[2]);
        }
        return x;
    }

    /** Each TEAM has a chance of its own. */
    private static TugOfWar withChances() {
        return withEvents("h99", "h99", "", new int[] {0, 0, 0}, new int[] {0, 1, 0}, new int[] {0, 2, 0},
            new int[] {0, 3, 0}, new int[] {0, 4, 8}, new int[] {0, 5, 8}, new int[] {0, 6, 8}, new int[] {0, 7, 8});
    }

    /** Two EVENTS had better not be. */
    private static TugOfWar withTwoToSpare() {
        return withEvents("h99", "h99;h93", "", new int[] {0, 4, 0}, new int[] {0, 5, 0});
    }

    /** A pull of TEAM 0 on BEAT 4 would be better, a rest of TEAM 1. */
    private static TugOfWar withBetterCalls() {
        return withEvents("h91", "h41", "r".repeat(24));
    }

    /** By a LOT more or less the other TEAM wins, or none. */
    private static TugOfWar withTightYears() {
        return withEvents("h39", "l92", "", new int[] {2, 16, 0});
    }

    private static void digestOfPlans() {
        CHECKS.sentence(38, "of TEAMS better(it, 4, 0 and 1), ..., chance(5, it), above, below");
        due("digest() with chances", withChances().digest(), Digest.of(SheetsEdgesTest::withChances));
        due("chance(5, 1, 0)", withChances().chance(5, 1, 0), 625);
        due("digest() with better calls", withBetterCalls().digest(), Digest.of(SheetsEdgesTest::withBetterCalls));
        due("better(0, 4, 0)", withBetterCalls().better(0, 4, 0), 1);
        CHECKS.sentence(38, "spare(NONE), spare(0), never(), years(7, 18, 0 and 1)");
        due("digest() with two to spare", withTwoToSpare().digest(), Digest.of(SheetsEdgesTest::withTwoToSpare));
        due("spare(-1)", withTwoToSpare().spare(-1), 2);
        due("digest() with tight years", withTightYears().digest(), Digest.of(SheetsEdgesTest::withTightYears));
        TugOfWar x = withTightYears();
        due("years(7, 17, 1)", x.years(7, 17, 1), 1);
        due("years(7, 18, 1)", x.years(7, 18, 1), -1);
        due("years(7, 19, 1)", x.years(7, 19, 1), 1);
    }

    private static void digestOfWhatIsTold() {
        CHECKS.sentence(38, "count() 0 to 7: not 8, nor what is on SHEETS");
        TugOfWar x = States.BUSY.make();
        long before = x.digest();
        x.lose(3);
        x.put(0, 0, 0, 99);
        x.sheet(3, 1, 60);
        due("digest()", x.digest(), before);
        CHECKS.sentence(38, "each of: bytes, EVENTS, SEEN, MUD make it another one");
        x.type(3, 'r');
        due("is it another one by a byte", x.digest() == before ? 1 : 0, 0);
        x.undo(3);
        due("digest()", x.digest(), before);
        x.event(0, 23, 15);
        due("is it another one by an EVENT", x.digest() == before ? 1 : 0, 0);
        x.back();
        due("digest()", x.digest(), before);
        x.mud(2);
        due("is it another one by MUD", x.digest() == before ? 1 : 0, 0);
        x.mud(1);
        due("digest()", x.digest(), before);
        x.seen(0, 0);
        due("is it another one by what was SEEN", x.digest() == before ? 1 : 0, 0);
    }
}
