/** Promises 20 to 23: each sentence of the document that names an edge, by itself. */
public final class PlansEdgesTest {
    private static final int NONE = -1, BAD = -2;
    private static final String RESTS = "r".repeat(24);
    private static final Checks CHECKS = new Checks("PlansEdgesTest");

    public static void main(String[] args) {
        betterIsEachOfThree();
        betterOnEachBeat();
        betterOfLikeOnes();
        betterBehindTheEnd();
        betterOnLaterBeats();
        swapOfLessThanTwo();
        swapOfTwo();
        swapOfEachPair();
        swapOfLikeOnes();
        outOfNone();
        outOfOne();
        outOfEach();
        outOfTheLastOne();
        outOfLikeOnes();
        spareNothing();
        spareOneOrTwo();
        spareNone();
        spareTheLeastRow();
        plansInMudAndRain();
        CHECKS.end();
    }

    private static void due(String call, long got, long want) {
        CHECKS.due(call, got, want);
    }

    /** Where a place for TEAM 0 is for TEAM 1. */
    private static int place(int team, int place) {
        return team == 0 ? place : 24 - place;
    }

    private static TugOfWar against(int team, String row, String calls, String otherRow, String otherCalls) {
        TugOfWar x = Checks.oneTeam(team, row, calls);
        Checks.type(x, 1 - team, otherRow);
        Checks.type(x, 3 - team, otherCalls);
        return x;
    }

    // ---- 20 better

    private static void better(TugOfWar x, int team, int beat, int which, int place) {
        due("better(" + team + ", " + beat + ", 0)", x.better(team, beat, 0), which);
        due("better(" + team + ", " + beat + ", 1)", x.better(team, beat, 1), place);
    }

    private static void betterIsEachOfThree() {
        CHECKS.sentence(20, "0 r, 1 p, 2 h, in place of what is told, by which the ROPE is furthest to it");
        for (int team = 0; team < 2; team++) {
            for (int told = 0; told < 3; told++) {
                String call = "rph".substring(told, told + 1);
                // Three of 9 pull it by 3 on beat 0 whatever is done; who rests then has breath for beat 1.
                better(against(team, "h91", call, "h91;h91;h91", ""), team, 0, 0, place(team, 12));
                // A heave by 6 on beat 0 goes further than a pull by 3; a rest gives the breath back for beat 2.
                better(against(team, "l32", call + "rp" + RESTS, "h31", "rrp" + RESTS), team, 0, 2, place(team, 14));
                better(against(team, "h91", call + RESTS, "", ""), team, 0, 1, place(team, 15));
            }
        }
    }

    private static void betterOnEachBeat() {
        CHECKS.sentence(20, "CALL of a TEAM on a BEAT: each of 24, that one alone");
        for (int team = 0; team < 2; team++) {
            for (int beat = 0; beat < 24; beat++) {
                TugOfWar x = Checks.oneTeam(team, "h91", RESTS);
                better(x, team, beat, 1, place(team, 15));
                better(x, 1 - team, beat, 0, 12);
            }
        }
    }

    private static void betterOfLikeOnes() {
        CHECKS.sentence(20, "of like ones the least");
        for (int team = 0; team < 2; team++) {
            better(new TugOfWar(), team, 0, 0, 12);
            better(new TugOfWar(), team, 23, 0, 12);
            // Its one pull is as good on beat 0 as on beat 1, as a pull or a heave.
            better(Checks.oneTeam(team, "h91", ""), team, 0, 0, place(team, 15));
            better(Checks.oneTeam(team, "h91", "rh"), team, 0, 0, place(team, 15));
            better(Checks.oneTeam(team, "h92", RESTS), team, 12, 1, place(team, 15));
            TugOfWar x = Checks.oneTeam(team, "h92", "h" + RESTS);
            x.event(2, 5, 0);
            better(x, team, 5, 0, place(team, 15));
        }
    }

    private static void betterBehindTheEnd() {
        CHECKS.sentence(20, "behind BEAT 23: nothing is better when either has WON");
        for (int team = 0; team < 2; team++) {
            TugOfWar x = Checks.oneTeam(team, "h99", "");
            for (int beat = 4; beat < 24; beat++) {
                better(x, team, beat, 0, place(team, 24));
                better(x, 1 - team, beat, 0, place(team, 24));
            }
        }
    }

    private static void betterOnLaterBeats() {
        CHECKS.sentence(20, "in place of what is told: p on later ones, with a FAULT too");
        for (int team = 0; team < 2; team++) {
            // One pull on beat 0; a rest behind it gives breath for another one, if there is a beat for it.
            TugOfWar x = Checks.oneTeam(team, "l81", "p");
            better(x, team, 1, 0, place(team, 16));
            better(x, team, 22, 0, place(team, 16));
            better(x, team, 23, 0, place(team, 14));
            TugOfWar y = Checks.oneTeam(team, "h41", RESTS.substring(1));
            better(y, team, 23, 2, place(team, 14));
            y.type(2 + team, '?');
            // Without calls it pulls by 4 on beat 0: a heave then is better, one on the last beat is for nothing.
            better(y, team, 23, 0, place(team, 13));
            better(y, team, 0, 2, place(team, 14));
        }
    }

    // ---- 21 swap

    private static void swap(TugOfWar x, int team, int first, int other, int place) {
        due("swap(" + team + ", 0)", x.swap(team, 0), first);
        due("swap(" + team + ", 1)", x.swap(team, 1), other);
        due("swap(" + team + ", 2)", x.swap(team, 2), place);
    }

    private static void swapOfLessThanTwo() {
        CHECKS.sentence(21, "NONE: there are less than two");
        for (int team = 0; team < 2; team++) {
            swap(new TugOfWar(), team, NONE, NONE, NONE);
            swap(against(team, "a91", "", Checks.row("h11", 8), ""), team, NONE, NONE, NONE);
            swap(against(team, "", "", Checks.row("h11", 8), ""), team, NONE, NONE, NONE);
            swap(against(team, "a91;h11;", "", "", ""), team, NONE, NONE, NONE);
        }
        CHECKS.sentence(21, "BAD, ahead of NONE");
        due("swap(0, 3)", new TugOfWar().swap(0, 3), BAD);
        due("swap(0, -1)", new TugOfWar().swap(0, -1), BAD);
        due("swap(2, 0)", new TugOfWar().swap(2, 0), BAD);
    }

    private static void swapOfTwo() {
        CHECKS.sentence(21, "its two PULLERS that had better change places: those two, if there are no others");
        for (int team = 0; team < 2; team++) {
            int p = 8 * team;
            swap(Checks.oneTeam(team, "h11;h11", ""), team, p, p + 1, 12);
            swap(Checks.oneTeam(team, "a41;h11", ""), team, p, p + 1, place(team, 14));
            TugOfWar x = Checks.oneTeam(team, "h11;a41", "");
            due("rope(23, 0), as told", x.rope(23, 0), place(team, 14));
            swap(x, team, p, p + 1, place(team, 13));
        }
    }

    /** A row of n, one of which is another one. */
    private static String rowWith(int n, int special, String one, String others) {
        StringBuilder s = new StringBuilder();
        for (int i = 0; i < n; i++) {
            s.append(i > 0 ? ";" : "").append(i == special ? one : others);
        }
        return s.toString();
    }

    private static void swapOfEachPair() {
        CHECKS.sentence(21, "its two PULLERS (the first less): each one with the last one");
        for (int team = 0; team < 2; team++) {
            for (int n = 2; n <= 8; n++) {
                for (int i = 0; i < n - 1; i++) {
                    // All together pull by 3 + n; the anchor by 2 more if it is the last.
                    TugOfWar x = against(team, rowWith(n, i, "a41", "h11"), "", "h" + (n + 1) + "1", "");
                    due("rope(23, 0), as told", x.rope(23, 0), 12);
                    swap(x, team, 8 * team + i, 8 * team + n - 1, place(team, 13));
                    due("puller, as told", x.puller(8 * team + i, 0), 2);
                }
            }
        }
    }

    private static void swapOfLikeOnes() {
        CHECKS.sentence(21, "of like ones the least row");
        for (int team = 0; team < 2; team++) {
            int p = 8 * team;
            for (int n = 2; n <= 8; n++) {
                swap(Checks.oneTeam(team, Checks.row("l11", n), RESTS), team, p, p + 1, 12);
                if (n > 2) {
                    // An anchor that is the last had better stay there.
                    String row = rowWith(n, n - 1, "a41", "h11");
                    swap(against(team, row, "", "h" + (n + 1) + "1", ""), team, p, p + 1, place(team, 13));
                }
            }
            // Both anchors are as good at the end: the first is of the lesser row.
            swap(against(team, "h11;a41;h11;a41;h11", "", "h91", ""), team, p + 1, p + 4, place(team, 13));
            // A light anchor is as good at the end as a heavy one: each pulls by 2 more there.
            swap(against(team, "a11;h11;a91;h11", "", "h91;h21", ""), team, p, p + 3, place(team, 13));
        }
    }

    // ---- 22 out

    private static void out(TugOfWar x, int team, int which, int place) {
        due("out(" + team + ", 0)", x.out(team, 0), which);
        due("out(" + team + ", 1)", x.out(team, 1), place);
    }

    private static void outOfNone() {
        CHECKS.sentence(22, "NONE: there are none");
        for (int team = 0; team < 2; team++) {
            out(new TugOfWar(), team, NONE, NONE);
            out(against(team, "", "", Checks.row("h91", 8), ""), team, NONE, NONE);
            out(against(team, "h11;", "", "h11", ""), team, NONE, NONE);
        }
        CHECKS.sentence(22, "BAD, ahead of NONE");
        due("out(0, 2)", new TugOfWar().out(0, 2), BAD);
        due("out(0, -1)", new TugOfWar().out(0, -1), BAD);
        due("out(2, 0)", new TugOfWar().out(2, 0), BAD);
    }

    private static void outOfOne() {
        CHECKS.sentence(22, "the PULLER that had better not be there: that one, if there is no other");
        for (int team = 0; team < 2; team++) {
            int p = 8 * team;
            out(Checks.oneTeam(team, "h91", ""), team, p, 12);
            out(Checks.oneTeam(team, "a99", ""), team, p, 12);
            out(against(team, "h91", "", "h91", ""), team, p, place(team, 9));
            due("it is there still", Checks.oneTeam(team, "h91", "").count(team), 1);
        }
    }

    private static void outOfEach() {
        CHECKS.sentence(22, "the PULLER that had better not be there (the others as they are)");
        for (int team = 0; team < 2; team++) {
            out(Checks.oneTeam(team, "h11;h31", ""), team, 8 * team, place(team, 13));
            out(Checks.oneTeam(team, "h31;h11", ""), team, 8 * team + 1, place(team, 13));
            for (int n = 3; n <= 8; n++) {
                for (int i = 0; i < n; i++) {
                    // Without the light one they pull by 3 more than the others, without another one by 2.
                    String others = Checks.pulling(2 * (n - 1) - 3);
                    TugOfWar x = against(team, rowWith(n, i, "h11", "h21"), "", others, "");
                    out(x, team, 8 * team + i, place(team, 13));
                    due("all are there still", x.count(team), n);
                }
            }
        }
    }

    private static void outOfTheLastOne() {
        CHECKS.sentence(22, "not be there: without the last one, the one ahead of it is the last of its TEAM");
        for (int team = 0; team < 2; team++) {
            for (int n = 2; n <= 8; n++) {
                int last = 8 * team + n - 1;
                // Then the anchor pulls by 2 more, and all by 3 more than the others; else by 1 more at most.
                String row = rowWith(n, n - 2, "a21", "h11");
                out(against(team, row, "", Checks.pulling(n - 1), ""), team, last, place(team, 13));
                // Then the anchor holds by 3 on each beat, up to the end.
                out(Checks.oneTeam(team, rowWith(n, n - 2, "a31", "h11"), RESTS), team, last, place(team, 22));
            }
        }
        CHECKS.sentence(22, "the others as they are: without another one, the last one is the last still");
        for (int team = 0; team < 2; team++) {
            for (int n = 2; n <= 8; n++) {
                // Without the first one the anchor pulls by 3, and all by 3 more than the others.
                String row = rowWith(n, n - 1, "a11", "h11");
                out(against(team, row, "", Checks.pulling(n - 2), ""), team, 8 * team, place(team, 13));
            }
        }
        CHECKS.sentence(22, "the others as they are: each keeps its number");
        for (int team = 0; team < 2; team++) {
            // Number 2 slips, whoever is not there; without number 0 numbers 1 and 3 pull by 6.
            TugOfWar x = against(team, "h11;h31;h91;h31", "p" + RESTS, "", "");
            x.event(0, 0, 8 * team + 2);
            out(x, team, 8 * team, place(team, 14));
        }
    }

    private static void outOfLikeOnes() {
        CHECKS.sentence(22, "of like ones the least number");
        for (int team = 0; team < 2; team++) {
            for (int n = 2; n <= 8; n++) {
                out(Checks.oneTeam(team, Checks.row("l11", n), RESTS), team, 8 * team, 12);
            }
            out(against(team, "h21;h11;h21;h11", "", "h21", ""), team, 8 * team + 1, place(team, 13));
        }
    }

    // ---- 23 spare

    private static void spare(TugOfWar x, int howMany, int first, int second) {
        due("spare(-1)", x.spare(NONE), howMany);
        due("spare(0)", x.spare(0), first);
        due("spare(1)", x.spare(1), second);
    }

    private static void spareNothing() {
        CHECKS.sentence(23, "the fewest EVENTS (0 to 2), so that TEAM 1 has not WON: none");
        spare(new TugOfWar(), 0, NONE, NONE);
        spare(Checks.teams("h99", ""), 0, NONE, NONE);
        TugOfWar x = Checks.teams("h99", "h99");
        for (int e = 0; e < 8; e++) {
            x.event(0, e, 8);
        }
        due("won(0)", x.won(0), 0);
        spare(x, 0, NONE, NONE);
        TugOfWar y = Checks.teams("", "h93");
        due("rope(23, 0), not WON yet", y.rope(23, 0), 3);
        spare(y, 0, NONE, NONE);
    }

    /** TEAM 1 pulls it to 3 on beats 0 to 2; each slip of number 0 behind that would be its end. */
    private static TugOfWar nearTheEnd(int... slips) {
        TugOfWar x = Checks.teams("h99", "h99;h93");
        for (int beat : slips) {
            x.event(beat < 0 ? 1 : 0, beat < 0 ? 23 : beat, 0);
        }
        return x;
    }

    private static void spareOneOrTwo() {
        CHECKS.sentence(23, "the fewest EVENTS (0 to 2): one");
        spare(nearTheEnd(), 0, NONE, NONE);
        spare(nearTheEnd(4), 1, 0, NONE);
        spare(nearTheEnd(-1, 4), 1, 1, NONE);
        spare(nearTheEnd(-1, -1, -1, -1, -1, -1, -1, 4), 1, 7, NONE);
        spare(nearTheEnd(4, -1, -1, -1, -1, -1, -1, -1), 1, 0, NONE);
        CHECKS.sentence(23, "the fewest EVENTS (0 to 2): two");
        spare(nearTheEnd(4, 5), 2, 0, 1);
        spare(nearTheEnd(5, 4), 2, 0, 1);
        spare(nearTheEnd(-1, -1, -1, -1, -1, -1, 4, 5), 2, 6, 7);
        spare(nearTheEnd(4, -1, -1, -1, -1, -1, -1, 5), 2, 0, 7);
        spare(nearTheEnd(-1, 4, -1, 5), 2, 1, 3);
    }

    private static void spareNone() {
        CHECKS.sentence(23, "NONE: two are not enough");
        spare(nearTheEnd(4, 5, 6), NONE, NONE, NONE);
        spare(nearTheEnd(4, 5, 6, 7, 4, 5, 6, 7), NONE, NONE, NONE);
        CHECKS.sentence(23, "NONE: there are no EVENTS that had better not be");
        spare(Checks.teams("", "h99"), NONE, NONE, NONE);
        TugOfWar x = Checks.teams("", "h99");
        x.event(1, 23, 0);
        spare(x, NONE, NONE, NONE);
        CHECKS.sentence(23, "how many (i = NONE), the i-th (0, 1); BAD");
        due("spare(-2)", x.spare(-2), BAD);
        due("spare(2)", x.spare(2), BAD);
    }

    private static void spareTheLeastRow() {
        CHECKS.sentence(23, "of like ones the least row (each more than the one ahead)");
        // Slips of numbers 0, 1, 2 cost 1, 2, 3 each, 13 in all: without 4 of these TEAM 1 has not WON.
        TugOfWar x = Checks.teams("h39;h69;h99", "h99;h99");
        int[] numbers = {0, 1, 1, 0, 0, 0, 1, 2};
        for (int e = 0; e < 8; e++) {
            x.event(0, e, numbers[e]);
        }
        due("won(0)", x.won(0), 1);
        spare(x, 2, 0, 7);
        // One that is enough goes ahead of two that are less.
        TugOfWar y = nearTheEnd(-1, -1, 4);
        spare(y, 1, 2, NONE);
        TugOfWar z = Checks.teams("h39;h69;h99", "h99;h99");
        int[] others = {1, 1, 2, 2, 0, 0};
        for (int e = 0; e < 6; e++) {
            z.event(0, e, others[e]);
        }
        // 12 in all: without 3 TEAM 1 has not WON.
        spare(z, 1, 2, NONE);
    }

    // ---- all plans

    private static void plansInMudAndRain() {
        for (int team = 0; team < 2; team++) {
            int p = 8 * team;
            CHECKS.sentence(20, "in place of what is told: in MUD as told");
            TugOfWar x = Checks.oneTeam(team, "h41", RESTS);
            x.mud(5);
            better(x, team, 3, 2, place(team, 13));
            x.mud(6);
            better(x, team, 3, 0, 12);
            CHECKS.sentence(20, "in place of what is told: by EVENTS as told");
            x.mud(0);
            x.event(0, 3, p);
            better(x, team, 3, 0, 12);
            better(x, team, 4, 2, place(team, 14));
            CHECKS.sentence(21, "change places: in MUD as told");
            TugOfWar y = Checks.oneTeam(team, "a21;h91", "");
            y.mud(9);
            swap(y, team, p, p + 1, place(team, 13));
            CHECKS.sentence(21, "each keeps its number: and slips by it");
            TugOfWar slip = Checks.oneTeam(team, "a21;h91", "p" + RESTS);
            slip.event(0, 0, p + 1);
            // The anchor, the last then, pulls by 4 on beat 0; what it holds by 2 later moves nothing.
            swap(slip, team, p, p + 1, place(team, 13));
            CHECKS.sentence(22, "not be there: in MUD as told");
            TugOfWar z = Checks.oneTeam(team, "h91;a31", "");
            z.mud(9);
            out(z, team, p, place(team, 13));
        }
        CHECKS.sentence(23, "had better not be: in MUD as told");
        TugOfWar w = Checks.teams("h99", "h99");
        for (int e = 0; e < 5; e++) {
            w.event(0, e, 0);
        }
        spare(w, 2, 0, 1);
        w.mud(1);
        spare(w, 1, 0, NONE);
        w.mud(9);
        spare(w, 0, NONE, NONE);
    }
}
