import java.util.ArrayList;
import java.util.List;

/** Objects that something was told to, and all that can be seen of one; within the 512 calls of an object. */
enum States {
    /** Nothing was told. */
    BLANK,
    /** Some of everything, and room for more. */
    BUSY,
    /** As much of everything as there may be. */
    FULL;

    private static final String EIGHT = "h92;l35;a44;h51;l18;h63;l77;a26";
    private static final String OTHER_EIGHT = "l53;h46;a21;l34;h82;l15;h39;h64";
    private static final int[] ITEMS = {0, 1, 2, 59, 60};

    TugOfWar make() {
        switch (this) {
            case BUSY:
                return busy();
            case FULL:
                return full();
            default:
                return new TugOfWar();
        }
    }

    /** The latest FINDING of what make() answers. */
    int finding() {
        switch (this) {
            case BUSY:
                return 4;
            case FULL:
                return 3;
            default:
                return 0;
        }
    }

    private static TugOfWar busy() {
        TugOfWar x = Checks.teams("h92;l35;a44", "l53;h46;a21", "phrhp", "hpr");
        x.mud(1);
        x.event(1, 2, 0);
        x.event(0, 4, 9);
        x.event(2, 6, 3);
        x.seen(0, x.rope(0, 0));
        x.seen(9, x.rope(9, 0));
        x.sheet(0, 0, 3);
        x.sheet(1, 1, 2);
        x.sheet(2, 2, 4);
        for (int i = 0; i < 2; i++) {
            x.put(0, 0, i, 2 - i);
            x.put(1, 1, i, 300 + i);
            x.put(2, 2, i, 70000 - i);
        }
        x.copy(0, 0, 1, 0, 0);
        return x;
    }

    private static TugOfWar full() {
        TugOfWar x = Checks.teams(EIGHT, OTHER_EIGHT, "hprhprhpphprhprhprhprhpr", "pphhrrpphhrrpphhrrpphhrh");
        x.mud(2);
        for (int e = 0; e < 8; e++) {
            x.event(e % 3, 2 * e, e);
            x.seen(e, x.rope(e, 0));
        }
        for (int s = 0; s < 4; s++) {
            x.sheet(s, s % 3, 60);
            x.put(s, s % 3, 0, 2);
            x.put(s, s % 3, 59, 7 + s);
        }
        x.get(0, 1, 0);
        return x;
    }

    /** All that can be seen but for the latest FINDING; what is looked at is used up by it. */
    static List<Long> look(TugOfWar x) {
        List<Long> all = new ArrayList<>();
        for (int what = 0; what < 8; what++) {
            all.add((long) x.count(what));
        }
        all.add(x.digest());
        for (int s = 0; s < 4; s++) {
            lookAtSheet(x, s, all);
        }
        all.add((long) x.mud(0));
        for (int text = 0; text < 4; text++) {
            for (int n = 0; n < 2; n++) {
                all.add((long) x.undo(text));
                all.add((long) x.fault(text));
                all.add((long) x.count(text));
            }
        }
        for (int n = 0; n < 2; n++) {
            all.add((long) x.back());
            all.add((long) x.count(6));
        }
        all.add((long) x.forget());
        return all;
    }

    private static void lookAtSheet(TugOfWar x, int s, List<Long> all) {
        for (int form = 0; form < 3; form++) {
            for (int i : ITEMS) {
                // A FINDING that get never has shows whether get has one.
                x.sheet(0, 0, -1);
                all.add((long) x.get(s, form, i));
                all.add((long) x.count(8));
            }
        }
        all.add((long) x.lose(s));
    }
}
