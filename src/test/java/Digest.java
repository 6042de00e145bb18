import java.math.BigInteger;
import java.util.ArrayList;
import java.util.List;
import java.util.function.Supplier;

/**
 * The digest of objects made alike, from the answers of their other calls: each part asks a new object, for all of
 * them together would be more than the 512 calls of one.
 */
final class Digest {
    private static final int[] BEATS = {0, 5, 12, 23};
    private final List<Long> all = new ArrayList<>();

    static long of(Supplier<TugOfWar> made) {
        Digest d = new Digest();
        d.addCounts(made.get());
        d.addBeats(made.get());
        for (int p = 0; p < 16; p++) {
            d.addPuller(made.get(), p);
        }
        for (int team = 0; team < 2; team++) {
            d.addTeam(made.get(), team);
        }
        d.addRest(made.get());
        return d.wrapped();
    }

    /** As numbers without an end, of which the lowest 64 bits are left. */
    private long wrapped() {
        BigInteger h = BigInteger.valueOf(17);
        for (long v : all) {
            h = h.multiply(BigInteger.valueOf(31)).add(BigInteger.valueOf(v));
        }
        return h.longValue();
    }

    private void add(long... values) {
        for (long v : values) {
            all.add(v);
        }
    }

    private void addCounts(TugOfWar x) {
        for (int what = 0; what < 8; what++) {
            add(x.count(what));
        }
        for (int text = 0; text < 4; text++) {
            add(x.fault(text));
        }
    }

    private void addBeats(TugOfWar x) {
        for (int b = 0; b < 24; b++) {
            add(x.call(0, b), x.call(1, b), x.rope(b, 0), x.rope(b, 1), x.rope(b, 2), x.rope(b, 3));
        }
    }

    private void addPuller(TugOfWar x, int p) {
        if (x.puller(p, 0) == TugOfWar.BAD) {
            return;
        }
        add(x.puller(p, 0), x.puller(p, 1), x.puller(p, 2));
        for (int b : BEATS) {
            add(x.at(b, p, 0), x.at(b, p, 1));
        }
        add(x.done(p), x.was(p, 0), x.was(p, 1), x.ask(p));
    }

    private void addTeam(TugOfWar x, int team) {
        add(x.better(team, 4, 0), x.better(team, 4, 1), x.swap(team, 0), x.swap(team, 1), x.swap(team, 2));
        add(x.out(team, 0), x.out(team, 1), x.chance(5, team, 0), x.chance(5, team, 1));
    }

    private void addRest(TugOfWar x) {
        add(x.won(0), x.won(1), x.furthest(0), x.furthest(1), x.spent(), x.best(), x.level());
        add(x.spare(-1), x.spare(0), x.never(), x.years(7, 18, 0), x.years(7, 18, 1));
    }
}
