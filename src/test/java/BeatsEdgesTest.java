/** Promises 12 to 19: each sentence of the document that names an edge, by itself. */
public final class BeatsEdgesTest {
    private static final int NONE = -1;
    private static final Checks CHECKS = new Checks("BeatsEdgesTest");

    public static void main(String[] args) {
        ropeGoesByAThird();
        ropeGoesFromBeatToBeat();
        ropeEndsAt0And24();
        nothingButRainBehindTheEnd();
        nobodyDoesAnythingBehindTheEnd();
        breathGoesDownToNone();
        heavesNeedBreath();
        restGivesBreath();
        restOfAnAnchorAtTheEnd();
        anAnchorAtTheEndPullsBy2More();
        mudTakesNoMoreThanThereIs();
        wonAt22And2();
        wonOnABeat();
        wonOnceForAll();
        furthestOf12Too();
        furthestOnOneBeat();
        doneInAll();
        spentOfEach();
        spentBehindBeat23();
        bestOfEach();
        bestOfLikeOnes();
        levelOnHowMany();
        levelBehindTheEnd();
        CHECKS.end();
    }

    private static void due(String call, long got, long want) {
        CHECKS.due(call, got, want);
    }

    private static String rests(int n) {
        return "r".repeat(n);
    }

    // ---- 12 rope

    private static void ropeGoesByAThird() {
        CHECKS.sentence(12, "by a third of the difference of what both TEAMS pull (cut), by 3 at most");
        for (int up = 0; up <= 24; up++) {
            for (int down = 0; down <= 24; down++) {
                TugOfWar x = Checks.teams(Checks.pulling(up), Checks.pulling(down));
                int way = Math.min(3, Math.abs(up - down) / 3);
                due("rope(0, 0) by " + up + " and " + down, x.rope(0, 0), up > down ? 12 + way : 12 - way);
                due("rope(0, 1)", x.rope(0, 1), up);
                due("rope(0, 2)", x.rope(0, 2), down);
                due("rope(1, 0)", x.rope(1, 0), x.rope(0, 0));
                due("rope(1, 1)", x.rope(1, 1), 0);
                due("rope(1, 2)", x.rope(1, 2), 0);
            }
        }
        CHECKS.sentence(12, "by 3 at most: by all that there may be");
        String all = Checks.row("h99", 7) + ";a99";
        due("up by 146", Checks.teams(all, "", "h", "").rope(0, 1), 16 * 9 + 2);
        due("to 15", Checks.teams(all, "", "h", "").rope(0, 0), 15);
        due("to 9", Checks.teams("", all, "", "h").rope(0, 0), 9);
        due("to neither", Checks.teams(all, all, "h", "h").rope(0, 0), 12);
    }

    private static void ropeGoesFromBeatToBeat() {
        CHECKS.sentence(12, "The ROPE is at 12 at first; BEATS are 0 to 23");
        due("rope(0, 0) of none", new TugOfWar().rope(0, 0), 12);
        due("rope(23, 0) of none", new TugOfWar().rope(23, 0), 12);
        for (int beat = 0; beat < 24; beat++) {
            TugOfWar x = Checks.teams("h91", "h41", rests(beat) + "p" + rests(23 - beat), rests(24));
            for (int b = 0; b < 24; b++) {
                due("rope(" + b + ", 0), a pull on " + beat, x.rope(b, 0), b < beat ? 12 : 15);
                due("rope(" + b + ", 1), a pull on " + beat, x.rope(b, 1), b == beat ? 9 : 0);
            }
        }
    }

    private static void ropeEndsAt0And24() {
        CHECKS.sentence(12, "The ROPE is at 12 at first (0 to 24); it stays as it is then");
        int[] up = {15, 18, 21, 24, 24, 24};
        TugOfWar x = Checks.teams("h99;h99", "");
        TugOfWar y = Checks.teams("", "h99;h99");
        for (int beat = 0; beat < 24; beat++) {
            due("up, rope(" + beat + ", 0)", x.rope(beat, 0), up[Math.min(beat, 5)]);
            due("down, rope(" + beat + ", 0)", y.rope(beat, 0), 24 - up[Math.min(beat, 5)]);
        }
    }

    private static void nothingButRainBehindTheEnd() {
        TugOfWar x = Checks.teams("h98;l12;a15", "l13;a94", "ppphr", "rrrrr");
        x.event(1, 3, 0);
        x.event(1, 4, 0);
        x.event(1, 23, 0);
        x.event(0, 4, 1);
        x.event(2, 5, 1);
        // Beat 0: 9, 1 and 3 against 9; then the same without number 1 from beat 2 on, 18 and 4 on beat 3.
        int[] places = {13, 14, 15, 18};
        for (int beat = 0; beat < 4; beat++) {
            due("rope(" + beat + ", 0)", x.rope(beat, 0), places[beat]);
        }
        x.wipe(1);
        CHECKS.sentence(12, "nobody pulls, HOLDS, rests on later BEATS");
        due("won(1)", x.won(1), 3);
        for (int beat = 4; beat < 24; beat++) {
            due("rope(" + beat + ", 1)", x.rope(beat, 1), 0);
            due("rope(" + beat + ", 2)", x.rope(beat, 2), 0);
            due("rope(" + beat + ", 0)", x.rope(beat, 0), 24);
        }
        CHECKS.sentence(13, "nobody pulls, HOLDS, rests on later BEATS");
        int[] breath = {4, 0, 0};
        for (int p = 0; p < 3; p++) {
            for (int beat = 4; beat < 24; beat++) {
                due("at(" + beat + ", " + p + ", 0)", x.at(beat, p, 0), 0);
                due("at(" + beat + ", " + p + ", 1)", x.at(beat, p, 1), breath[p]);
            }
        }
        CHECKS.sentence(12, "RAIN falls all the same");
        due("rope(2, 3)", x.rope(2, 3), 0);
        due("rope(3, 3)", x.rope(3, 3), 1);
        due("rope(4, 3)", x.rope(4, 3), 2);
        due("rope(22, 3)", x.rope(22, 3), 2);
        due("rope(23, 3)", x.rope(23, 3), 3);
    }

    private static void nobodyDoesAnythingBehindTheEnd() {
        CHECKS.sentence(13, "nobody pulls, HOLDS, rests on later BEATS: of all 16, whatever they did as it was told ahead");
        String eight = Checks.row("h99", 7) + ";a99";
        for (int team = 0; team < 2; team++) {
            TugOfWar x = Checks.teams(eight, eight);
            due("at(8, 15, 0), neither has WON", x.at(8, 15, 0), 11);
            due("at(8, 7, 1), neither has WON", x.at(8, 7, 1), 0);
            Checks.type(x, 3 - team, rests(20));
            due("won(0)", x.won(0), team);
            due("won(1)", x.won(1), 3);
            for (int p = 0; p < 16; p++) {
                for (int beat = 4; beat < 24; beat += 4) {
                    due("at(" + beat + ", " + p + ", 0)", x.at(beat, p, 0), 0);
                    due("at(" + beat + ", " + p + ", 1)", x.at(beat, p, 1), p / 8 == team ? 5 : 9);
                }
            }
        }
    }

    // ---- 13 at

    private static void breathGoesDownToNone() {
        CHECKS.sentence(13, "as much BREATH at first as WIND is told; one that has none does not [pull]");
        for (int wind = 1; wind <= 9; wind++) {
            for (int sort = 0; sort < 3; sort++) {
                for (int team = 0; team < 2; team++) {
                    String one = "hla".charAt(sort) + "1" + wind;
                    TugOfWar x = Checks.oneTeam(team, one, "");
                    for (int beat = 0; beat < 12; beat++) {
                        int pull = beat < wind ? sort == 2 ? 3 : 1 : 0;
                        due("pull of " + one + " on " + beat, x.at(beat, 8 * team, 0), pull);
                        due("breath of " + one + " on " + beat, x.at(beat, 8 * team, 1), Math.max(0, wind - 1 - beat));
                    }
                }
            }
        }
    }

    private static void heavesNeedBreath() {
        CHECKS.sentence(13, "one that has 2 at least (a heaver 1) pulls by twice its WEIGHT; another one does as if it pulled");
        for (int wind = 1; wind <= 9; wind++) {
            TugOfWar x = Checks.teams("h1" + wind + ";h11", "l1" + wind + ";a1" + wind + ";h11", "h".repeat(24), "h".repeat(24));
            for (int beat = 0; beat < 12; beat++) {
                due("heaver of " + wind + " on " + beat, x.at(beat, 0, 0), beat < wind ? 2 : 0);
                due("its breath", x.at(beat, 0, 1), Math.max(0, wind - 1 - beat));
                int had = Math.max(0, wind - 2 * beat);
                for (int p = 8; p < 10; p++) {
                    due(p + " of " + wind + " on " + beat, x.at(beat, p, 0), Math.min(2, had));
                    due("its breath", x.at(beat, p, 1), Math.max(0, had - 2));
                }
            }
        }
    }

    private static void restGivesBreath() {
        CHECKS.sentence(13, "has 1 BREATH more, a limber one 2, no more than at first");
        for (int wind = 1; wind <= 9; wind++) {
            for (int used = 0; used <= wind; used++) {
                String calls = "p".repeat(used) + rests(24 - used);
                TugOfWar x = Checks.teams("h1" + wind + ";a1" + wind + ";l1" + wind, "", calls, "");
                for (int n = 1; n <= 6; n++) {
                    int beat = used + n - 1;
                    int left = wind - used;
                    due("heaver", x.at(beat, 0, 1), Math.min(wind, left + n));
                    due("anchor that is not the last", x.at(beat, 1, 1), Math.min(wind, left + n));
                    due("limber", x.at(beat, 2, 1), Math.min(wind, left + 2 * n));
                    due("does not pull", x.rope(beat, 1), 0);
                }
            }
        }
    }

    private static void restOfAnAnchorAtTheEnd() {
        CHECKS.sentence(13, "an anchor that is the last of its TEAM HOLDS by its WEIGHT then, and has none more");
        for (int team = 0; team < 2; team++) {
            for (int ahead = 0; ahead < 8; ahead++) {
                int p = 8 * team + ahead;
                String row = (ahead > 0 ? Checks.row("a11", ahead) + ";" : "") + "a22";
                TugOfWar x = Checks.oneTeam(team, row, "pprrp");
                due("it pulls", x.at(0, p, 0), 4);
                due("its breath", x.at(1, p, 1), 0);
                due("it holds without breath", x.at(2, p, 0), 2);
                due("its breath", x.at(2, p, 1), 0);
                due("it holds again", x.at(3, p, 0), 2);
                due("its breath", x.at(3, p, 1), 0);
                due("it has none to pull", x.at(4, p, 0), 0);
                for (int other = 8 * team; other < p; other++) {
                    due("another anchor pulls by no more", x.at(0, other, 0), 1);
                    due("another anchor does not hold", x.at(2, other, 0), 0);
                    due("it has breath more", x.at(2, other, 1), 1);
                }
            }
        }
    }

    private static void anAnchorAtTheEndPullsBy2More() {
        CHECKS.sentence(13, "An anchor that is the last pulls by 2 more whenever it pulls");
        for (int weight = 1; weight <= 9; weight++) {
            TugOfWar x = Checks.teams("h11;a" + weight + "3", Checks.row("h99", 2), "hhh", "");
            due("a heave", x.at(0, 1, 0), 2 * weight + 2);
            due("a heave with breath for a pull", x.at(1, 1, 0), weight + 2);
            due("a heave without breath", x.at(2, 1, 0), 0);
            TugOfWar y = Checks.teams("h11;a" + weight + "1", Checks.row("h99", 2), "pp", "");
            due("a pull", y.at(0, 1, 0), weight + 2);
            due("a pull without breath", y.at(1, 1, 0), 0);
        }
        CHECKS.sentence(13, "the last of its TEAM: no heaver, no limber one there does so");
        TugOfWar z = Checks.teams("a11;h31", "a11;l31", "rp", "rp");
        due("at(0, 1, 0)", z.at(0, 1, 0), 0);
        due("at(0, 9, 0)", z.at(0, 9, 0), 0);
        due("at(1, 1, 0)", z.at(1, 1, 0), 3);
        due("at(1, 9, 0)", z.at(1, 9, 0), 3);
        due("at(1, 0, 0)", z.at(1, 0, 0), 1);
        due("at(1, 8, 0)", z.at(1, 8, 0), 1);
    }

    private static void mudTakesNoMoreThanThereIs() {
        CHECKS.sentence(13, "MUD is taken, 0 at least; not of an anchor");
        for (int weight = 1; weight <= 9; weight++) {
            for (int mud = 0; mud <= 9; mud++) {
                String w = weight + "5";
                TugOfWar x = Checks.teams("h" + w + ";l" + w + ";a" + w + ";a" + w, "", "phr", "");
                x.mud(mud);
                for (int p = 0; p < 4; p++) {
                    int more = p == 3 ? 2 : 0;
                    int taken = p < 2 ? mud : 0;
                    due("pull of " + p + " by " + w + " in " + mud, x.at(0, p, 0), Math.max(0, weight + more - taken));
                    due("heave of " + p + " by " + w + " in " + mud, x.at(1, p, 0), Math.max(0, 2 * weight + more - taken));
                    due("rest of " + p + " by " + w + " in " + mud, x.at(2, p, 0), p == 3 ? weight : 0);
                    due("breath is used all the same", x.at(0, p, 1), 4);
                }
            }
        }
    }

    // ---- 14 won

    private static void wonAt22And2() {
        CHECKS.sentence(14, "At 22 or more TEAM 0 has WON, at 2 or less TEAM 1");
        // By pulls of 9 and one of 6, 3 or 0 the rope is just so far.
        String[] rows = {"h93", "h93;h31", "h93;h61", "h93;h91"};
        String calls = "ppp" + rests(21);
        for (int i = 0; i < 4; i++) {
            for (int team = 0; team < 2; team++) {
                TugOfWar x = Checks.oneTeam(team, "h94", "ppp" + rests(20) + (i == 0 ? "r" : "p"));
                Checks.type(x, 1 - team, i == 0 || i == 3 ? "" : "h" + (9 - 3 * i) + "1");
                Checks.type(x, 3 - team, rests(23) + "p");
                int place = 21 + i;
                due("rope(23, 0)", x.rope(23, 0), team == 0 ? place : 24 - place);
                due("won(0) at " + place, x.won(0), i == 0 ? NONE : team);
                due("won(1) at " + place, x.won(1), i == 0 ? NONE : 23);
                TugOfWar y = Checks.oneTeam(team, rows[i], calls);
                due("three pulls, by 3 at most each, are not enough", y.won(0), NONE);
            }
        }
    }

    private static void wonOnABeat() {
        CHECKS.sentence(14, "the BEAT: the first that may be, the last one");
        for (int team = 0; team < 2; team++) {
            for (int n = 0; n < 24; n++) {
                TugOfWar x = Checks.oneTeam(team, "h99", rests(n));
                due("won(0) behind " + n + " rests", x.won(0), n <= 20 ? team : NONE);
                due("won(1) behind " + n + " rests", x.won(1), n <= 20 ? n + 3 : NONE);
            }
        }
        CHECKS.sentence(14, "NONE");
        due("won(0) of none", new TugOfWar().won(0), NONE);
        due("won(1) of none", new TugOfWar().won(1), NONE);
    }

    private static void wonOnceForAll() {
        CHECKS.sentence(14, "which TEAM: the one that has WON first, whatever the other one would do");
        for (int team = 0; team < 2; team++) {
            TugOfWar x = Checks.oneTeam(team, "h94", "");
            Checks.type(x, 1 - team, Checks.row("h99", 8));
            Checks.type(x, 3 - team, "rrrr");
            due("won(0)", x.won(0), team);
            due("won(1)", x.won(1), 3);
            due("rope(23, 0)", x.rope(23, 0), team == 0 ? 24 : 0);
            x.undo(3 - team);
            due("won(0), if it pulled one beat earlier", x.won(0), 1 - team);
        }
    }

    // ---- 15 furthest

    private static void furthestOf12Too() {
        CHECKS.sentence(15, "the greatest, the least place of the ROPE (12 too)");
        for (int n = 0; n <= 9; n++) {
            TugOfWar up = Checks.teams(Checks.pulling(n), "");
            TugOfWar down = Checks.teams("", Checks.pulling(n));
            due("furthest(0) up by " + n, up.furthest(0), 12 + n / 3);
            due("furthest(1) up by " + n, up.furthest(1), 12);
            due("furthest(0) down by " + n, down.furthest(0), 12);
            due("furthest(1) down by " + n, down.furthest(1), 12 - n / 3);
        }
        due("furthest(0) of one that wins", Checks.teams("h99", "").furthest(0), 24);
        due("furthest(1) of one that wins", Checks.teams("", "h99").furthest(1), 0);
    }

    private static void furthestOnOneBeat() {
        CHECKS.sentence(15, "the greatest, the least place: behind one BEAT alone");
        for (int beat = 0; beat < 23; beat++) {
            for (int team = 0; team < 2; team++) {
                TugOfWar x = Checks.oneTeam(team, "h91", rests(beat) + "p" + rests(23 - beat));
                Checks.type(x, 1 - team, "h91");
                Checks.type(x, 3 - team, rests(beat + 1));
                due("rope(23, 0)", x.rope(23, 0), 12);
                due("furthest(0) by beat " + beat, x.furthest(0), team == 0 ? 15 : 12);
                due("furthest(1) by beat " + beat, x.furthest(1), team == 0 ? 12 : 9);
            }
        }
        due("furthest(0) by beat 23", Checks.teams("h91", "", rests(23), "").furthest(0), 15);
        due("furthest(1) by beat 23", Checks.teams("", "h91", "", rests(23)).furthest(1), 9);
    }

    // ---- 16 done

    private static void doneInAll() {
        CHECKS.sentence(16, "all that it pulled and HELD: on all BEATS, the first and the last too");
        TugOfWar x = Checks.teams("a91", "a91", rests(24), rests(24));
        due("done(0), held on 24 beats", x.done(0), 216);
        due("done(8), held on 24 beats", x.done(8), 216);
        x.event(0, 0, 0);
        due("done(0), not on beat 0", x.done(0), 207);
        x.event(0, 23, 8);
        due("done(8), not on beat 23", x.done(8), 207);
        CHECKS.sentence(16, "all that it pulled: nothing");
        TugOfWar y = Checks.teams("h11", "l91", rests(24), rests(24));
        due("done(0) of one that rests", y.done(0), 0);
        due("done(8) of one that rests", y.done(8), 0);
        y.wipe(2);
        y.mud(1);
        due("done(0) of one in the mud", y.done(0), 0);
        y.mud(0);
        due("done(0)", y.done(0), 1);
        CHECKS.sentence(16, "all that it pulled: nothing behind the end");
        due("done(0)", Checks.teams("h99;a99", "").done(0), 36);
        due("done(1)", Checks.teams("h99;a99", "", "pppprrr", "").done(1), 44);
    }

    // ---- 17 spent

    private static String rowWith(int special, String one, String others) {
        StringBuilder s = new StringBuilder();
        for (int i = 0; i < 8; i++) {
            s.append(i > 0 ? ";" : "").append(i == special ? one : others);
        }
        return s.toString();
    }

    private static void spentOfEach() {
        CHECKS.sentence(17, "PULLERS that have no BREATH, as bits: each of 16");
        for (int p = 0; p < 16; p++) {
            TugOfWar x = Checks.teams(rowWith(p, "h11", "h12"), rowWith(p - 8, "h11", "h12"), rests(23), rests(23));
            due("spent(), number " + p, x.spent(), 1 << p);
        }
        due("spent() of all", Checks.teams(Checks.row("l11", 8), Checks.row("l11", 8)).spent(), 65535);
        CHECKS.sentence(17, "PULLERS: none that is not there");
        due("spent() of none", new TugOfWar().spent(), 0);
        due("spent() of one in each", Checks.teams("h11", "h11").spent(), 257);
        due("spent() of one with a FAULT behind it", Checks.teams("h11;", "h11").spent(), 256);
        TugOfWar y = Checks.teams("h11;h11", "h11");
        y.wipe(0);
        due("spent() of one that was wiped", y.spent(), 256);
    }

    private static void spentBehindBeat23() {
        CHECKS.sentence(17, "behind BEAT 23");
        due("spent() by beat 23", Checks.teams("h11", "", rests(23) + "p", "").spent(), 1);
        due("spent() by beat 22", Checks.teams("h11", "", rests(22) + "pr", "").spent(), 0);
        due("spent(), breath is left", Checks.teams("h12", "", rests(23), "").spent(), 0);
        due("spent(), an anchor at the end", Checks.teams("a11", "", "p" + rests(23), "").spent(), 1);
        due("spent() behind the end", Checks.teams("h99;h14;h15", "").spent(), 2);
    }

    // ---- 18 best

    private static void bestOfEach() {
        CHECKS.sentence(18, "who has DONE most: each of 16");
        for (int p = 0; p < 16; p++) {
            TugOfWar x = Checks.teams(rowWith(p, "h21", "h11"), rowWith(p - 8, "h21", "h11"));
            due("best(), number " + p, x.best(), p);
        }
        CHECKS.sentence(18, "DONE most: not by WEIGHT alone, what is HELD too");
        due("best() by wind", Checks.teams("h31;h14", "").best(), 1);
        due("best() by holding", Checks.teams("h91;a11", "", "prrrrrrrrrrrrrrrrrrrrrrr", "").best(), 1);
    }

    private static void bestOfLikeOnes() {
        CHECKS.sentence(18, "of like ones the least number");
        due("best() of 16 alike", Checks.teams(Checks.row("h11", 8), Checks.row("h11", 8)).best(), 0);
        due("best() of 7, 8", Checks.teams(rowWith(7, "h31", "h11"), rowWith(0, "h31", "h11")).best(), 7);
        due("best() of 14, 15", Checks.teams("h11", Checks.row("h11", 6) + ";h21;h21").best(), 14);
        CHECKS.sentence(18, "NONE: nobody anything");
        due("best() of none", new TugOfWar().best(), NONE);
        due("best() of one that rests", Checks.teams("h99", "l99", rests(24), rests(24)).best(), NONE);
        TugOfWar x = Checks.teams("h99", "l99");
        x.mud(9);
        due("best() in the mud", x.best(), NONE);
        x.mud(8);
        due("best() when they pull by 1", x.best(), 0);
        due("best() of 1 alone", Checks.teams("", "l11", "", rests(23)).best(), 8);
    }

    // ---- 19 level

    private static void levelOnHowMany() {
        CHECKS.sentence(19, "on how many BEATS both TEAMS pulled alike");
        due("level() of none", new TugOfWar().level(), 24);
        for (int wind = 1; wind <= 9; wind++) {
            due("level() by 1 and 0", Checks.teams("h1" + wind, "").level(), 24 - wind);
            due("level() by 0 and 1", Checks.teams("", "h1" + wind).level(), 24 - wind);
            due("level() by 2 and 1", Checks.teams("h2" + wind, "h1" + wind).level(), 24 - wind);
            due("level() by 5 and 3 + 2", Checks.teams("h5" + wind, "h3" + wind + ";h2" + wind).level(), 24);
        }
        due("level() but on beat 0", Checks.teams("h11", "").level(), 23);
        due("level() but on beat 23", Checks.teams("h11", "", rests(23), "").level(), 23);
        due("level() by what is held", Checks.teams("a11", "", rests(24), "").level(), 0);
        TugOfWar x = Checks.teams("h99", "l81");
        x.mud(9);
        due("level() in the mud", x.level(), 24);
    }

    private static void levelBehindTheEnd() {
        CHECKS.sentence(19, "none on those behind that by which either has WON");
        for (int n = 0; n <= 21; n++) {
            due("level() up behind " + n + " rests", Checks.teams("h99", "", rests(n), "").level(), n);
            due("level() down behind " + n + " rests", Checks.teams("", "h99", "", rests(n)).level(), n);
        }
    }
}
