import java.math.BigInteger;

/** Promises 24 to 30: each sentence of the document that names an edge, by itself. */
public final class SeenEdgesTest {
    private static final int NONE = -1, BAD = -2, FULL = -4;
    private static final String RESTS = "r".repeat(24);
    private static final Checks CHECKS = new Checks("SeenEdgesTest");

    public static void main(String[] args) {
        seenOnBeatsAtPlaces();
        seenEightAtMost();
        forgetAll();
        neverOfNoEvents();
        neverWithoutAnythingSeen();
        neverOfEach();
        neverOfOneAlone();
        weightsFrom1To9();
        weightsThatNoneFits();
        sortsOfThree();
        wasOfEachPuller();
        askOnTheFirstOfLikeOnes();
        askOnTheLastBeat();
        askOfThoseThatFit();
        askByTheGreatestWeight();
        inMudAsTold();
        chanceFrom0To16();
        chanceOfNoEvents();
        chanceInLowestTerms();
        chanceOfEightEvents();
        chanceOfWhatIsToldNow();
        yearsFrom0To24();
        yearsByAnySeed();
        yearsInPlaceOfThoseTold();
        yearsOfWhoHasWon();
        CHECKS.end();
    }

    private static void due(String call, long got, long want) {
        CHECKS.due(call, got, want);
    }

    // ---- 24 seen

    private static void seenOnBeatsAtPlaces() {
        CHECKS.sentence(24, "behind a BEAT the ROPE was at a place (0 to 24): the least and the greatest");
        TugOfWar x = new TugOfWar();
        due("seen(0, 0)", x.seen(0, 0), 1);
        due("seen(-1, 0)", x.seen(-1, 0), BAD);
        due("seen(23, 24)", x.seen(23, 24), 2);
        due("seen(24, 24)", x.seen(24, 24), BAD);
        due("seen(0, 24)", x.seen(0, 24), 3);
        due("seen(0, 25)", x.seen(0, 25), BAD);
        due("seen(23, 0)", x.seen(23, 0), 4);
        due("seen(23, -1)", x.seen(23, -1), BAD);
        due("count(7)", x.count(7), 4);
    }

    private static void seenEightAtMost() {
        CHECKS.sentence(24, "SEEN, 8 at most: how many; FULL");
        TugOfWar x = new TugOfWar();
        for (int n = 1; n <= 8; n++) {
            due("the same once more", x.seen(5, 12), n);
        }
        due("a ninth", x.seen(5, 12), FULL);
        due("another ninth", x.seen(6, 13), FULL);
        due("count(7)", x.count(7), 8);
        CHECKS.sentence(24, "BAD; FULL: one that cannot be, when there are 8");
        due("seen(24, 12)", x.seen(24, 12), BAD);
        due("seen(5, 25)", x.seen(5, 25), BAD);
        CHECKS.sentence(24, "SEEN, 8 at most: the eighth is looked at, a ninth is not");
        TugOfWar y = Checks.teams("h31", "");
        for (int n = 0; n < 7; n++) {
            y.seen(n, 13);
        }
        due("was(0, 0) by seven", y.was(0, 0), 1 << 3 | 1 << 4 | 1 << 5);
        y.seen(7, 12);
        due("was(0, 0) by eight", y.was(0, 0), 0);
        y.forget();
        for (int n = 0; n < 8; n++) {
            y.seen(n, 13);
        }
        y.seen(8, 12);
        due("was(0, 0) with a ninth", y.was(0, 0), 1 << 3 | 1 << 4 | 1 << 5);
    }

    // ---- 25 forget

    private static void forgetAll() {
        TugOfWar x = Checks.teams("h31", "");
        CHECKS.sentence(25, "how many: none");
        due("forget()", x.forget(), 0);
        for (int n = 1; n <= 8; n++) {
            CHECKS.sentence(25, "All SEEN are forgotten: how many");
            for (int i = 0; i < n; i++) {
                x.seen(i, 24);
            }
            due("was(0, 0)", x.was(0, 0), 0);
            due("forget()", x.forget(), n);
            due("count(7)", x.count(7), 0);
            due("was(0, 0)", x.was(0, 0), 1022);
            due("forget() again", x.forget(), 0);
        }
        CHECKS.sentence(25, "All SEEN are forgotten: there is room again");
        for (int n = 1; n <= 8; n++) {
            due("seen(0, 13)", x.seen(0, 13), n);
        }
        due("seen(0, 13)", x.seen(0, 13), FULL);
    }

    // ---- 26 never

    private static void neverOfNoEvents() {
        CHECKS.sentence(26, "EVENTS each of which ..., as bits: there are none");
        TugOfWar x = Checks.teams("h91", "");
        due("never()", x.never(), 0);
        x.seen(0, 15);
        due("never(), all fits", x.never(), 0);
        x.seen(0, 14);
        due("never(), nothing fits", x.never(), 0);
        x.event(1, 0, 0);
        x.back();
        due("never(), one undone", x.never(), 0);
    }

    private static void neverWithoutAnythingSeen() {
        CHECKS.sentence(26, "makes all that was SEEN come out so: nothing was");
        TugOfWar x = Checks.teams("h91", "");
        for (int n = 1; n <= 8; n++) {
            x.event(n % 3, n, n);
            due("never() of " + n, x.never(), (1 << n) - 1);
        }
        x.seen(0, 24);
        due("never() when none fits", x.never(), 0);
        x.forget();
        due("never() of 8", x.never(), 255);
    }

    /** On each of beats 0 to 7 number 0 slips, and the rope goes down by 1. */
    private static TugOfWar slipping() {
        TugOfWar x = Checks.teams("h39", "h39");
        for (int beat = 0; beat < 8; beat++) {
            x.event(0, beat, 0);
        }
        return x;
    }

    private static void neverOfEach() {
        CHECKS.sentence(26, "EVENTS each of which, had it alone not been: each of 8");
        for (int e = 0; e < 8; e++) {
            TugOfWar x = slipping();
            x.seen(e, 12 - e);
            due("never() of those up to " + e, x.never(), (2 << e) - 1);
            if (e > 0) {
                x.seen(e - 1, 12 - e);
            }
            due("never() of " + e, x.never(), 1 << e);
        }
    }

    private static void neverOfOneAlone() {
        CHECKS.sentence(26, "had it alone not been: not two, not none");
        TugOfWar x = slipping();
        x.seen(7, 6);
        due("never() when two would have to be gone", x.never(), 0);
        TugOfWar y = slipping();
        y.seen(7, 4);
        due("never() when all have been", y.never(), 0);
        TugOfWar z = Checks.teams("h39", "h39");
        z.event(0, 0, 0);
        z.event(1, 23, 0);
        z.event(0, 1, 0);
        z.seen(1, 10);
        due("never() of one that changes nothing there", z.never(), 2);
    }

    // ---- 27 was

    private static void weightsFrom1To9() {
        CHECKS.sentence(27, "WEIGHTS of a PULLER: 1 to 9, in place of its own, as bits (bit 1 on)");
        int[] places = {12, 13, 14, 15};
        int[] bits = {1 << 1 | 1 << 2, 1 << 3 | 1 << 4 | 1 << 5, 1 << 6 | 1 << 7 | 1 << 8, 1 << 9};
        for (int own = 1; own <= 9; own++) {
            for (int i = 0; i < 4; i++) {
                TugOfWar x = Checks.teams("h" + own + "1", "h" + own + "1", "", RESTS);
                due("was(0, 0), nothing seen", x.was(0, 0), 1022);
                x.seen(0, places[i]);
                due("was(0, 0) at " + places[i], x.was(0, 0), bits[i]);
                due("puller(0, 1), as told", x.puller(0, 1), own);
            }
        }
        CHECKS.sentence(27, "WEIGHTS: each of 9 alone");
        // It heaves, then pulls, against nothing, nothing, 1 and 2.
        int[][] ropes = {{12, 12, 12, 12}, {13, 13, 13, 13}, {14, 15, 15, 15}, {14, 15, 16, 16}, {15, 16, 17, 18},
            {15, 17, 18, 19}, {15, 17, 19, 20}, {15, 17, 19, 21}, {15, 18, 20, 22}};
        for (int weight = 1; weight <= 9; weight++) {
            TugOfWar x = Checks.teams("h54", "h12;h12", "hppp", "rrpp");
            x.event(0, 2, 9);
            for (int beat = 0; beat < 4; beat++) {
                x.seen(beat, ropes[weight - 1][beat]);
            }
            due("was(0, 0)", x.was(0, 0), 1 << weight);
        }
    }

    private static void weightsThatNoneFits() {
        CHECKS.sentence(27, "likewise: none by which all that was SEEN comes out so");
        TugOfWar x = Checks.teams("h51", "");
        x.seen(0, 16);
        due("was(0, 0), too far", x.was(0, 0), 0);
        due("was(0, 1), too far", x.was(0, 1), 0);
        x.forget();
        x.seen(0, 13);
        x.seen(0, 14);
        due("was(0, 0), two places", x.was(0, 0), 0);
        due("was(0, 1), two places", x.was(0, 1), 0);
    }

    private static void sortsOfThree() {
        CHECKS.sentence(27, "SORT of a PULLER: 0 h, 1 l, 2 a, in place of its own, as bits");
        for (int own = 0; own < 3; own++) {
            String sort = "hla".substring(own, own + 1);
            for (int team = 0; team < 2; team++) {
                int p = 8 * team;
                TugOfWar h = Checks.oneTeam(team, sort + "52", "hp");
                due("was(p, 1), nothing seen", h.was(p, 1), 7);
                h.seen(1, team == 0 ? 16 : 8);
                due("was(p, 1), a heaver has breath left", h.was(p, 1), 1);
                TugOfWar l = Checks.oneTeam(team, sort + "32", "pprp");
                l.seen(4, team == 0 ? 16 : 8);
                due("was(p, 1), a limber one has it back", l.was(p, 1), 2);
                TugOfWar a = Checks.oneTeam(team, sort + "32", RESTS);
                a.seen(0, team == 0 ? 13 : 11);
                due("was(p, 1), an anchor holds", a.was(p, 1), 4);
                due("puller(p, 0), as told", a.puller(p, 0), own);
            }
        }
    }

    private static void wasOfEachPuller() {
        CHECKS.sentence(27, "of a PULLER: each of 16, that one alone");
        for (int p = 0; p < 16; p++) {
            TugOfWar x = Checks.teams(Checks.row("h11", 8), Checks.row("h11", 8));
            // All but number p slip: the rope goes by what it alone pulls.
            for (int other = p / 8 * 8; other < p / 8 * 8 + 8; other++) {
                if (other != p) {
                    x.event(0, 0, other);
                }
            }
            Checks.type(x, p < 8 ? 3 : 2, RESTS);
            due("was(" + p + ", 0), nothing seen", x.was(p, 0), 1022);
            due("was(" + p + ", 1), nothing seen", x.was(p, 1), 7);
            x.seen(0, p < 8 ? 15 : 9);
            due("was(" + p + ", 0)", x.was(p, 0), 1 << 9);
            due("was of another one", x.was(p % 8 == 0 ? p + 1 : p - 1, 0), 0);
        }
    }

    // ---- 28 ask

    private static void askOnTheFirstOfLikeOnes() {
        CHECKS.sentence(28, "of like ones the least");
        due("ask(0) of one that rests", Checks.teams("h91", "", RESTS, "").ask(0), 0);
        due("ask(0) of one that pulls once", Checks.teams("h91", "").ask(0), 0);
        due("ask(8) of one that pulls once", Checks.teams("", "h91").ask(8), 0);
        CHECKS.sentence(28, "is least: of no WEIGHTS, of one");
        TugOfWar x = Checks.teams("h91", "", "rrp" + RESTS, "");
        due("ask(0)", x.ask(0), 2);
        x.seen(5, 15);
        due("was(0, 0), one", x.was(0, 0), 512);
        due("ask(0) of one", x.ask(0), 0);
        x.seen(5, 14);
        due("was(0, 0), none", x.was(0, 0), 0);
        due("ask(0) of none", x.ask(0), 0);
    }

    private static void askOnTheLastBeat() {
        CHECKS.sentence(28, "the BEAT behind which: each of 24");
        for (int beat = 0; beat < 24; beat++) {
            String calls = "r".repeat(beat) + "p" + "r".repeat(23 - beat);
            due("ask(0), a pull on " + beat, Checks.teams("l51", "", calls, "").ask(0), beat);
            due("ask(8), a pull on " + beat, Checks.teams("", "h51", "", calls).ask(8), beat);
        }
    }

    private static void askOfThoseThatFit() {
        CHECKS.sentence(28, "those of WEIGHTS by which the ROPE is at the like place");
        // It pulls by 0, 1 and 2 less; behind beat 1 no more than two are alike, and 1, 2 always are.
        TugOfWar x = Checks.teams("h53", "", "ppp", "");
        x.event(1, 1, 0);
        x.event(1, 2, 0);
        due("ask(0)", x.ask(0), 1);
        x.seen(1, 14);
        due("was(0, 0)", x.was(0, 0), 1 << 4 | 1 << 5);
        due("ask(0) of 4, 5", x.ask(0), 2);
        x.forget();
        x.seen(0, 13);
        due("was(0, 0)", x.was(0, 0), 1 << 3 | 1 << 4 | 1 << 5);
        due("ask(0) of 3, 4, 5", x.ask(0), 2);
        x.forget();
        x.seen(2, 12);
        due("was(0, 0)", x.was(0, 0), 1 << 1 | 1 << 2);
        due("ask(0) of 1, 2", x.ask(0), 0);
    }

    private static void askByTheGreatestWeight() {
        CHECKS.sentence(28, "the greatest number of those of WEIGHTS: 9 is one of them");
        // Behind beat 0 weights 5 to 9 are alike, behind beat 1 only 5 to 8: 9 goes by 1 more in the rain.
        TugOfWar x = Checks.teams("h52", "", "hp", "");
        for (int n = 0; n < 6; n++) {
            x.event(1, 1, 0);
        }
        due("ask(0)", x.ask(0), 1);
    }

    private static void inMudAsTold() {
        TugOfWar x = Checks.teams("h61", "");
        x.mud(3);
        x.event(0, 0, 0);
        x.seen(0, 13);
        CHECKS.sentence(26, "had it alone not been: in MUD as told");
        due("never()", x.never(), 1);
        CHECKS.sentence(27, "in place of its own: in MUD, by EVENTS as told");
        due("was(0, 0), it slips", x.was(0, 0), 0);
        x.back();
        due("was(0, 0)", x.was(0, 0), 1 << 6 | 1 << 7 | 1 << 8);
        due("was(0, 1), no anchor", x.was(0, 1), 3);
        CHECKS.sentence(28, "WEIGHTS: in MUD as told");
        TugOfWar y = Checks.teams("h52", "", "ph", "");
        due("ask(0)", y.ask(0), 0);
        y.mud(8);
        due("ask(0) in mud", y.ask(0), 1);
        CHECKS.sentence(29, "the chance that a TEAM has WON: in MUD as told");
        TugOfWar z = Checks.teams("h94", "");
        due("chance(5, 0, 0)", z.chance(5, 0, 0), 1);
        z.mud(1);
        due("chance(5, 0, 0) in mud", z.chance(5, 0, 0), 0);
        CHECKS.sentence(30, "in place of those told: in MUD, by EVENTS as told");
        TugOfWar w = Checks.teams("", "h41");
        due("years(1, 0, 0)", w.years(1, 0, 0), 11);
        w.mud(2);
        due("years(1, 0, 0) in mud", w.years(1, 0, 0), 12);
        w.mud(0);
        w.event(1, 0, 0);
        w.event(1, 0, 0);
        due("years(1, 0, 0) in rain", w.years(1, 0, 0), 12);
    }

    // ---- 29 chance

    private static void chance(TugOfWar x, int c, int team, BigInteger above, BigInteger below) {
        BigInteger common = above.gcd(below);
        due("chance(" + c + ", " + team + ", 0)", x.chance(c, team, 0), above.divide(common).longValueExact());
        due("chance(" + c + ", " + team + ", 1)", x.chance(c, team, 1), below.divide(common).longValueExact());
    }

    private static BigInteger power(int n, int to) {
        return BigInteger.valueOf(n).pow(to);
    }

    private static void chanceFrom0To16() {
        CHECKS.sentence(29, "each of EVENTS is by c sixteenths (0 to 16): none is, all are");
        TugOfWar x = Checks.teams("h94", "");
        x.event(1, 0, 0);
        due("chance(0, 0, 0), it is not", x.chance(0, 0, 0), 1);
        due("chance(0, 0, 1), it is not", x.chance(0, 0, 1), 1);
        due("chance(16, 0, 0), it is", x.chance(16, 0, 0), 0);
        due("chance(16, 0, 1), it is", x.chance(16, 0, 1), 1);
        due("chance(-1, 0, 0)", x.chance(-1, 0, 0), Long.MIN_VALUE + 2);
        due("chance(17, 0, 0)", x.chance(17, 0, 0), Long.MIN_VALUE + 2);
        CHECKS.sentence(29, "As the least long: BAD is -2, and x more");
        due("chance(0, 2, 0)", x.chance(0, 2, 0), -9223372036854775806L);
        due("chance(0, 0, 2)", x.chance(0, 0, 2), -9223372036854775806L);
    }

    private static void chanceOfNoEvents() {
        CHECKS.sentence(29, "FRACTIONS are told above and below (0 by 1): there are no EVENTS");
        for (int c = 0; c <= 16; c++) {
            for (int team = 0; team < 2; team++) {
                TugOfWar none = new TugOfWar();
                chance(none, c, team, BigInteger.ZERO, BigInteger.ONE);
                chance(Checks.oneTeam(team, "h99", ""), c, team, BigInteger.ONE, BigInteger.ONE);
                chance(Checks.oneTeam(team, "h99", ""), c, 1 - team, BigInteger.ZERO, BigInteger.ONE);
            }
        }
    }

    private static void chanceInLowestTerms() {
        CHECKS.sentence(29, "FRACTIONS are told in lowest terms, above and below (0 by 1)");
        for (int c = 0; c <= 16; c++) {
            TugOfWar x = Checks.teams("h94", "");
            for (int n = 1; n <= 8; n++) {
                x.event(1, n % 2, 0);
                // It wins if there is no rain at all on its first two beats.
                chance(x, c, 0, power(16 - c, n), power(16, n));
                chance(x, c, 1, BigInteger.ZERO, BigInteger.ONE);
            }
        }
    }

    /** In how many ways at least four of eight are. */
    private static BigInteger fourOfEight(int c) {
        int[] ways = {1, 8, 28, 56, 70, 56, 28, 8, 1};
        BigInteger all = BigInteger.ZERO;
        for (int k = 4; k <= 8; k++) {
            all = all.add(BigInteger.valueOf(ways[k]).multiply(power(c, k)).multiply(power(16 - c, 8 - k)));
        }
        return all;
    }

    private static void chanceOfEightEvents() {
        CHECKS.sentence(29, "each of EVENTS ..., by itself: 8 of them");
        for (int c = 0; c <= 16; c++) {
            // By four slips of one TEAM the other one has won.
            TugOfWar x = Checks.teams("h99", "h99");
            TugOfWar y = Checks.teams("h99", "h99");
            for (int e = 0; e < 8; e++) {
                x.event(0, e, 0);
                y.event(0, e, 8);
            }
            chance(x, c, 1, fourOfEight(c), power(16, 8));
            chance(y, c, 0, fourOfEight(c), power(16, 8));
        }
        CHECKS.sentence(29, "below may be more than an int");
        TugOfWar z = Checks.teams("h94", "");
        for (int e = 0; e < 8; e++) {
            z.event(1, 0, 0);
        }
        due("chance(1, 0, 0)", z.chance(1, 0, 0), 2562890625L);
        due("chance(1, 0, 1)", z.chance(1, 0, 1), 4294967296L);
    }

    private static void chanceOfWhatIsToldNow() {
        CHECKS.sentence(29, "the chance that a TEAM has WON: as it is told by now");
        TugOfWar x = Checks.teams("h9", "");
        x.event(1, 0, 0);
        chance(x, 4, 0, BigInteger.ZERO, BigInteger.ONE);
        x.type(0, '4');
        chance(x, 4, 0, BigInteger.valueOf(3), BigInteger.valueOf(4));
        x.event(1, 0, 0);
        chance(x, 4, 0, BigInteger.valueOf(9), BigInteger.valueOf(16));
        x.back();
        chance(x, 4, 0, BigInteger.valueOf(3), BigInteger.valueOf(4));
        x.sheet(0, 0, 3);
        x.put(0, 0, 0, 1);
        x.read(0);
        chance(x, 4, 0, BigInteger.valueOf(9), BigInteger.valueOf(16));
        x.mud(1);
        chance(x, 4, 0, BigInteger.ZERO, BigInteger.ONE);
        x.mud(0);
        chance(x, 4, 0, BigInteger.valueOf(9), BigInteger.valueOf(16));
        x.undo(0);
        chance(x, 4, 0, BigInteger.ZERO, BigInteger.ONE);
        x.type(0, '9');
        chance(x, 4, 0, BigInteger.ONE, BigInteger.ONE);
        x.wipe(0);
        chance(x, 4, 0, BigInteger.ZERO, BigInteger.ONE);
    }

    // ---- 30 years

    private static void yearsFrom0To24() {
        CHECKS.sentence(30, "n LOTS of 3 (0 to 24)");
        TugOfWar x = Checks.teams("", "h99", "", RESTS);
        due("years(1, 0, 0)", x.years(1, 0, 0), 0);
        due("years(1, -1, 0)", x.years(1, -1, 0), BAD);
        due("years(1, 25, 0)", x.years(1, 25, 0), BAD);
        due("years(1, 24, 0)", x.years(1, 24, 0), 0);
        due("years(1, 24, -1)", x.years(1, 24, -1), BAD);
        due("years(1, 24, 2)", x.years(1, 24, 2), BAD);
        CHECKS.sentence(30, "p on later BEATS: on all, with no LOTS; on none, with 24");
        due("rope(23, 0), all rest", x.rope(23, 0), 12);
        TugOfWar y = Checks.teams("", "h11;h22;l31");
        due("years(9, 0, 0)", y.years(9, 0, 0), y.rope(23, 0));
    }

    private static String lots(int seed, int n) {
        StringBuilder calls = new StringBuilder();
        BigInteger lot = BigInteger.valueOf(seed);
        for (int i = 0; i < n; i++) {
            lot = lot.multiply(BigInteger.valueOf(1103515245)).add(BigInteger.valueOf(12345))
                .mod(BigInteger.ONE.shiftLeft(32));
            calls.append("rph".charAt(lot.shiftRight(16).mod(BigInteger.valueOf(3)).intValue()));
        }
        return calls.toString();
    }

    private static void yearsByAnySeed() {
        CHECKS.sentence(30, "as ints that wrap; its upper 16 bits as a number from 0 on, modulo m");
        int[] seeds = {0, 1, -1, 7, 12345, -12345, 65535, 65536, 1 << 30, Integer.MAX_VALUE, Integer.MIN_VALUE,
            Integer.MAX_VALUE - 1, Integer.MIN_VALUE + 1};
        for (int seed : seeds) {
            for (int n = 0; n <= 24; n++) {
                TugOfWar told = Checks.teams("h34;a23", "l39;a14", "hpr", lots(seed, n));
                TugOfWar x = Checks.teams("h34;a23", "l39;a14", "hpr", "hhh");
                due("years(" + seed + ", " + n + ", 0)", x.years(seed, n, 0), told.rope(23, 0));
                due("years(" + seed + ", " + n + ", 1)", x.years(seed, n, 1), told.won(0));
            }
        }
        CHECKS.sentence(30, "YEARS by a SEED: the same one, the same LOTS");
        TugOfWar y = Checks.teams("", "a39");
        int first = y.years(5, 24, 0);
        y.years(6, 24, 0);
        due("years(5, 24, 0) again", y.years(5, 24, 0), first);
    }

    private static void yearsInPlaceOfThoseTold() {
        CHECKS.sentence(30, "the CALLS of TEAM 1, in place of those told");
        String[] others = {"", "r", RESTS, "hhh", "rx"};
        TugOfWar plain = Checks.teams("h52", "l39;a14", "hr", "");
        for (String calls : others) {
            TugOfWar x = Checks.teams("h52", "l39;a14", "hr", calls);
            for (int n = 0; n <= 24; n += 6) {
                due("years(3, " + n + ", 0), told " + calls, x.years(3, n, 0), plain.years(3, n, 0));
            }
        }
        due("years(3, 0, 0), TEAM 0 as told", Checks.teams("h91", "", RESTS, "").years(3, 0, 0), 12);
        due("years(3, 24, 0), TEAM 0 as told", Checks.teams("h91", "", RESTS, "").years(3, 24, 0), 12);
    }

    private static void yearsOfWhoHasWon() {
        CHECKS.sentence(30, "which TEAM has WON (NONE)");
        due("years(2, 24, 1)", Checks.teams("h99", "").years(2, 24, 1), 0);
        due("years(2, 0, 1)", Checks.teams("", "h99").years(2, 0, 1), 1);
        due("years(2, 24, 1)", new TugOfWar().years(2, 24, 1), NONE);
        due("years(2, 0, 1), just not", Checks.teams("", "h93").years(2, 0, 1), NONE);
        due("years(2, 0, 1), though it rests as told", Checks.teams("", "h94", "", RESTS).years(2, 0, 1), 1);
    }
}
