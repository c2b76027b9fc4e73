/** What another GATE, another CUP's rule would do, at the bounds. Promises 28 to 33. */
public final class WhatIfBoundsTest {
    private static final int NONE = -1;
    private static final int NOT_NOW = -2;
    private static final int LOWEST = Integer.MIN_VALUE;
    private static final int GREATEST = 99999;
    // TIE 2 of MIDWAY: the next GAME is hosted by club 0, 10 and 4, by 20 60 20, what is left to the POOL

    public static void main(String[] args) {
        bringsWithin();
        bringsDecidedOrNot();
        bringsHoweverMany();
        bringsOthers();
        leastWithin();
        leastByTrying();
        leastWithMuchDue();
        leastWhateverWasLookedAt();
        leastOfNone();
        leastOthers();
        byCupWithin();
        byCupOfItsRound();
        byCupReplaysAside();
        byCupOthers();
        fairestOfSeveral();
        fairestMostAlike();
        fairestOfNoneSuch();
        temptWithin();
        temptOfNextOnes();
        temptOthers();
        ifGateWithin();
        ifGateOfAClosedPool();
        ifGateOthers();
        Check.finish("WhatIfBoundsTest");
    }

    private static void due(String call, long want, long got) {
        Check.due(call, want, got);
    }

    // ---- brings

    private static void brings(Twins.Step before, int tie, int gate, int... want) {
        for (int what = 0; what < 3; what++) {
            int w = what;
            Twins.leavesAll("brings(" + tie + ", " + gate + ", " + what + ")", want[what], before, x -> x.brings(tie, gate, w));
        }
    }

    private static void bringsWithin() {
        Check.says("what 0 EXPENSES and SHARE of the FIRST, 1 of the SECOND, 2 SHARE of the POOL.");
        brings(Twins.MIDWAY, 2, 0, 0, 0, 0);
        brings(Twins.MIDWAY, 2, 1, 0, 1, 0);
        // 13 by 14: 3 and 9, 1 is left
        brings(Twins.MIDWAY, 2, 13, 3, 10, 0);
        brings(Twins.MIDWAY, 2, 14, 4, 10, 0);
        brings(Twins.MIDWAY, 2, 15, 4, 10, 1);
        brings(Twins.MIDWAY, 2, 114, 4 + 60, 10 + 20, 20);
        // 99984: 19996.8, 59990.4, 19996.8, 2 are left | 99985: 19997, 59991, 19997
        brings(Twins.MIDWAY, 2, 99998, 4 + 59990, 10 + 19996, 19998);
        brings(Twins.MIDWAY, 2, GREATEST, 4 + 59991, 10 + 19997, 19997);
    }

    private static void bringsDecidedOrNot() {
        Check.says("What a GAME would bring, played next in a TIE with a GATE (0 .. 99999; whether DECIDED or not, however many there were)");
        // TIE 0 is DECIDED by two GAMES: the third is at home with 0, by 60 30 10, without a FLOOR
        brings(Twins.MIDWAY, 0, 115, 10 + 60, 5 + 30, 10);
        // TIE 1 by one: at home with 3, 4 and 7
        brings(Twins.MIDWAY, 1, 111, 7 + 30, 4 + 60, 10);
    }

    private static void bringsHoweverMany() {
        Check.says("however many there were)");
        Twins.Step before = x -> {
            Check.tell(x, "club 10 3 0;club 20 5 0;cup 60 30 10 floor 50 replays 3 again 20 70 10");
            x.book();
            x.tie(0, 0, 1, 0);
        };
        // GAME 0: 20 and 3 of 123; 30 lack 20
        brings(before, 0, 123, 20 + 40, 3 + 50, 10);
        for (int games = 1; games <= 4; games++) {
            int n = games;
            Twins.Step played = Twins.then(before, x -> {
                for (int i = 0; i < n; i++) {
                    due("play()", i + 1, x.play(0, 7, i < 3 ? 2 : 0));
                }
            });
            // at home with 0, the SECOND: 10 and 5 | with 1, the FIRST: 20 and 3
            if (games % 2 == 1) {
                brings(played, 0, 115, 5 + 70, 10 + 20, 10);
            } else {
                brings(played, 0, 123, 20 + 20, 3 + 70, 10);
            }
        }
    }

    private static void bringsOthers() {
        Check.says("2 SHARE of the POOL. NONE: others.");
        for (int n : Check.beyond(0, 2)) {
            Twins.leavesAll("brings(" + n + ", 0, 0)", NONE, Twins.MIDWAY, x -> x.brings(n, 0, 0));
            Twins.leavesAll("brings(2, 0, " + n + ")", NONE, Twins.MIDWAY, x -> x.brings(2, 0, n));
        }
        for (int n : Check.beyond(0, GREATEST)) {
            Twins.leavesAll("brings(2, " + n + ", 0)", NONE, Twins.MIDWAY, x -> x.brings(2, n, 0));
            Twins.leavesAll("brings(0, " + n + ", 2)", NONE, Twins.MIDWAY, x -> x.brings(0, n, 2));
        }
        Twins.leavesAll("brings(0, 0, 0), no TIES", NONE, Twins.BOOKED, x -> x.brings(0, 0, 0));
    }

    // ---- least

    private static void least(int tie, int n, int what, int want) {
        Twins.leavesAll("least(" + tie + ", " + n + ", " + what + ")", want, Twins.MIDWAY, x -> x.least(tie, n, what));
    }

    private static void leastWithin() {
        Check.says("The least GATE (0 .. 99999) by which brings() tells n or more");
        for (int what = 0; what < 3; what++) {
            least(2, 0, what, 0);
        }
        // the SECOND is HOST: 1 of 1, 9 of 12 (12 by 14: 3 and 8, 1 is left), 10 of 13
        least(2, 1, 1, 1);
        least(2, 9, 1, 12);
        least(2, 10, 1, 13);
        // 20 of 5 are the first 1 more
        least(2, 11, 1, 19);
        // the FIRST: 4 by 14 of 4 is 1, of 11 is 3, of 14 is 4; 60 of 2 are 1
        least(2, 1, 0, 4);
        least(2, 3, 0, 11);
        least(2, 4, 0, 14);
        least(2, 5, 0, 16);
        // the POOL has what is left: 1 of 1
        least(2, 1, 2, 15);
        // at the farthest
        least(2, 4 + 59991, 0, GREATEST);
        least(2, 4 + 59990, 0, 99998);
    }

    private static void leastByTrying() {
        Check.says("The least GATE (0 .. 99999) by which brings() tells n or more (what 0 .. 2 as there)");
        String[] cups = {"60 10 30 floor 50", "0 50 50", "34 33 33 odd 1", "2 49 49 first 2 odd 2", "0 0 100 first 1", "100 0 0 first 2"};
        for (String cup : cups) {
            CupPot x = Check.withBook("club 13 5 0;club 6 9 0;cup " + cup);
            x.tie(0, 0, 0, 1);
            for (int what = 0; what < 3; what++) {
                // by how much brings() tells at most up to that GATE: each step up is a least GATE
                int most = 0;
                for (int gate = 1; gate < 1000; gate++) {
                    int brought = x.brings(0, gate, what);
                    for (int n = most + 1; n <= brought; n++) {
                        due(cup + ": least(0, " + n + ", " + what + ")", gate, x.least(0, n, what));
                    }
                    most = Math.max(most, brought);
                }
            }
        }
    }

    private static void leastWithMuchDue() {
        Check.says("The least GATE (0 .. 99999) by which brings() tells n or more");
        CupPot x = Check.withBook("club 9999 1 0;club 1 9999 0;cup 100 0 0");
        x.tie(0, 0, 0, 1);
        // of 9999 at once, of more when the GUEST has 9999, too
        int[][] rows = {{9998, 9998}, {9999, 9999}, {10000, 19999}, {10001, 20000}, {85000, 94999}, {89999, 99998}, {90000, GREATEST}};
        for (int[] r : rows) {
            due("least(0, " + r[0] + ", 0)", r[1], x.least(0, r[0], 0));
        }
        due("1 more than there can be", NOT_NOW, x.least(0, 90001, 0));
        due("the first of the GUEST", 10000, x.least(0, 1, 1));
        due("the last of the GUEST", 19998, x.least(0, 9999, 1));
        due("1 more than there can be", NOT_NOW, x.least(0, 10000, 1));
    }

    private static void leastWhateverWasLookedAt() {
        Check.says("The least GATE (0 .. 99999) by which brings() tells n or more");
        // nothing is DUE in TIE 0, 30 in TIE 1; the HOST has what is left, 1 of 1
        CupPot x = Check.withBook("club 0 0 0;club 0 0 0;club 10 20 0;club 10 20 0;cup 0 50 50");
        x.tie(0, 0, 0, 1);
        x.tie(0, 0, 2, 3);
        for (int turn = 0; turn < 2; turn++) {
            x.brings(1, 100, 0);
            due("least(0, 1, 0)", 1, x.least(0, 1, 0));
            x.brings(0, 100, 0);
            due("least(1, 11, 0)", 31, x.least(1, 11, 0));
        }
    }

    private static void leastOfNone() {
        Check.says("-2: none.");
        least(2, 4 + 59992, 0, NOT_NOW);
        // HOST: 19997 of REST 99985 at most; the POOL 19998 with 2 left, of 99983 and 99984
        least(2, 10 + 19998, 1, NOT_NOW);
        least(2, 19998, 2, 99997);
        least(2, 19999, 2, NOT_NOW);
        for (int what = 0; what < 3; what++) {
            least(2, GREATEST, what, NOT_NOW);
            least(2, 100000, what, NOT_NOW);
            least(2, Integer.MAX_VALUE, what, NOT_NOW);
        }
        CupPot x = Check.withBook("club 0 0 0;club 0 0 0;cup 100 0 0");
        x.tie(0, 0, 0, 1);
        due("all of it", GREATEST, x.least(0, GREATEST, 0));
        due("1 more than all of it", NOT_NOW, x.least(0, 100000, 0));
        due("who never gets any", NOT_NOW, x.least(0, 1, 1));
        due("who never gets any", NOT_NOW, x.least(0, 1, 2));
        due("0 of nothing", 0, x.least(0, 0, 2));
    }

    private static void leastOthers() {
        Check.says("-2: none. NONE: others, n below 0.");
        for (int n : Check.beyond(0, 2)) {
            least(n, 0, 0, NONE);
            least(2, 0, n, NONE);
            least(2, GREATEST, n, NONE);
        }
        for (int n : new int[] {-1, -2, LOWEST}) {
            for (int what = 0; what < 3; what++) {
                least(2, n, what, NONE);
                least(0, n, what, NONE);
            }
        }
        Twins.leavesAll("least(0, 0, 0), no TIES", NONE, Twins.BOOKED, x -> x.least(0, 0, 0));
    }

    // ---- byCup, fairest

    private static void byCup(int tie, int cup, int... want) {
        for (int what = 0; what < 3; what++) {
            int w = what;
            Twins.leavesAll("byCup(" + tie + ", " + cup + ", " + what + ")", want[what], Twins.MIDWAY, x -> x.byCup(tie, cup, w));
        }
    }

    private static void byCupWithin() {
        Check.says("What the FIRST (what 0), the SECOND (1), POOLS (2) had of a TIE, were all its GAMES shared as those of another CUP");
        // its own CUP: as tieOf() tells
        byCup(0, 0, 547, 495, 108);
        byCup(2, 1, 4, 17, 0);
        // 985 by 50 25 25: 492, 246, 246, 1 left to the POOL; the replay by 20 60 20
        byCup(0, 1, 10 + 492 + 20 + 60, 5 + 246 + 30 + 20, 247 + 20);
        // 21: 4, then 17
        byCup(2, 0, 4, 17, 0);
        // 329 by 50 25 25: 164, 82, 82, 1 left to the POOL
        byCup(1, 1, 164, 4 + 82, 83);
        CupPot x = Twins.made(Twins.MIDWAY);
        x.tie(0, 1, 0, 3);
        for (int what = 0; what < 3; what++) {
            due("no GAMES", 0, x.byCup(3, 1, what));
        }
    }

    private static void byCupOfItsRound() {
        Check.says("(ROUND as it is; REPLAYS aside)");
        // CUP 1 is neutral from 1 on, CUP 2 from 2 on; ROUND 1 of CUP 0
        CupPot x = Check.withBook("club 10 4 0;".repeat(4) + "cup 60 30 10;cup 60 30 10 neutral 1;cup 60 30 10 neutral 2");
        Check.deeds(x, "tie 0 0 0 1;tie 0 0 2 3;play 0 114 first;play 1 114 first;close 0 0;tie 0 1 0 2;play 2 108 first");
        int[][] want = {{10 + 57, 4 + 28, 9}, {4 + 45, 4 + 45, 10}, {10 + 57, 4 + 28, 9}};
        for (int cup = 0; cup < 3; cup++) {
            for (int what = 0; what < 3; what++) {
                due("byCup(2, " + cup + ", " + what + ")", want[cup][what], x.byCup(2, cup, what));
            }
            due("ROUND 0", 10 + 60, x.byCup(0, cup, 0));
        }
    }

    private static void byCupReplaysAside() {
        Check.says("REPLAYS aside");
        CupPot x = Check.withBook("club 0 0 0;club 0 0 0;cup 100 0 0 replays 3;cup 60 30 10 replays 0 again 20 70 10");
        x.tie(0, 0, 0, 1);
        for (int game = 0; game < 4; game++) {
            x.play(0, 100, game < 3 ? 2 : 1);
        }
        due("four GAMES by a CUP without REPLAYS", 60 + 70 + 20 + 70, x.byCup(0, 1, 0));
        due("four GAMES by a CUP without REPLAYS", 30 + 20 + 70 + 20, x.byCup(0, 1, 1));
        due("four GAMES by a CUP without REPLAYS", 40, x.byCup(0, 1, 2));
        due("by its own", 200, x.byCup(0, 0, 0));
    }

    private static void byCupOthers() {
        Check.says("(ROUND as it is; REPLAYS aside). NONE: others.");
        for (int n : Check.beyond(0, 2)) {
            Twins.leavesAll("byCup(" + n + ", 0, 0)", NONE, Twins.MIDWAY, x -> x.byCup(n, 0, 0));
            Twins.leavesAll("byCup(0, 1, " + n + ")", NONE, Twins.MIDWAY, x -> x.byCup(0, 1, n));
        }
        for (int n : Check.beyond(0, 1)) {
            Twins.leavesAll("byCup(0, " + n + ", 0)", NONE, Twins.MIDWAY, x -> x.byCup(0, n, 0));
        }
        Twins.leavesAll("byCup(0, 0, 0), no TIES", NONE, Twins.BOOKED, x -> x.byCup(0, 0, 0));
    }

    private static void fairestOfSeveral() {
        Check.says("The CUP by which both clubs of a TIE had most alike of it, the first of several.");
        // 547 and 495 | 582 and 301
        Twins.leavesAll("fairest(0)", 0, Twins.MIDWAY, x -> x.fairest(0));
        // 0 and 333 | 164 and 86
        Twins.leavesAll("fairest(1)", 1, Twins.MIDWAY, x -> x.fairest(1));
        // 4 and 17 by both, though it is of CUP 1
        Twins.leavesAll("fairest(2)", 0, Twins.MIDWAY, x -> x.fairest(2));
        CupPot x = Twins.made(Twins.MIDWAY);
        x.tie(1, 0, 1, 2);
        due("no GAMES", 0, x.fairest(3));
    }

    private static void fairestMostAlike() {
        Check.says("had most alike of it");
        // 1 more or less apart; who has more makes no difference
        String[][] cups = {{"51 49 0", "49 51 0", "50 49 1", "50 50 0"}, {"51 49 0", "49 50 1", "50 49 1", "52 48 0"},
            {"49 51 0", "51 49 0", "48 51 1", "51 48 1"}, {"0 100 0", "1 99 0", "99 0 1", "100 0 0"}, {"100 0 0", "0 100 0", "0 99 1", "98 0 2"}};
        int[] want = {3, 1, 0, 1, 3};
        for (int i = 0; i < cups.length; i++) {
            CupPot x = Check.withBook("club 0 0 0;club 0 0 0;cup " + String.join(";cup ", cups[i]));
            x.tie(2, 0, 1, 0);
            x.play(0, 100, 0);
            due("fairest(0), " + i, want[i], x.fairest(0));
        }
    }

    private static void fairestOfNoneSuch() {
        Check.says("the first of several. NONE: none such.");
        for (int n : Check.beyond(0, 2)) {
            Twins.leavesAll("fairest(" + n + ")", NONE, Twins.MIDWAY, x -> x.fairest(n));
        }
        Twins.leavesAll("fairest(0), no TIES", NONE, Twins.BOOKED, x -> x.fairest(0));
    }

    // ---- tempt

    private static void tempt(int gate, int first, int second) {
        Twins.leavesAll("tempt(2, " + gate + ", 0)", first, Twins.MIDWAY, x -> x.tempt(2, gate, 0));
        Twins.leavesAll("tempt(2, " + gate + ", 1)", second, Twins.MIDWAY, x -> x.tempt(2, gate, 1));
    }

    private static void temptWithin() {
        Check.says("TEMPT: how much more (below 0: less) the FIRST (what 0), the SECOND (1) of a TIE had of two GAMES, "
            + "half of the GATE, cut, and what is left of it, than of one with all of it");
        tempt(0, 0, 0);
        // 0 and 1: of the second of both GAMES the FIRST is HOST
        tempt(1, 0 + 1 - 0, 0 + 0 - 1);
        // 114 and 114: 64 30 | 90 by 20 60 20: 22 74; 228: 132 52
        tempt(228, 64 + 22 - 132, 30 + 74 - 52);
        // 114 and 115: 91: 22 74; 229: 133 53
        tempt(229, 64 + 22 - 133, 30 + 74 - 53);
        // 49999: 49985: 29991 9997 | 50000: 49976: 9995 29985; 99999: 59995 20007
        tempt(GREATEST, 4 + 29991 + 4 + 9995 - 59995, 10 + 9997 + 20 + 29985 - 20007);
    }

    private static void temptOfNextOnes() {
        Check.says("were these the next ones (as in brings())");
        CupPot x = Check.withBook("club 0 0 0;club 0 0 0;cup 60 40 0 floor 45 replays 3 again 80 20 0");
        x.tie(0, 0, 0, 1);
        // 50: 30 20, and 20 lack 25; 51 at home with the SECOND: 10 and 41; 101: 61 and 40, 5 lack
        due("from GAME 0", 5 + 10 - 56, x.tempt(0, 101, 0));
        due("from GAME 0", 45 + 41 - 45, x.tempt(0, 101, 1));
        for (int games = 1; games <= 4; games++) {
            x.play(0, 9, games < 4 ? 2 : 0);
            // without a FLOOR, by 80 20, by turns: 50: 40 10, 51: 41 10, 101: 81 20
            int host = 40 + 10 - 81;
            int guest = 10 + 41 - 20;
            due("from GAME " + games, games % 2 == 0 ? host : guest, x.tempt(0, 101, 0));
            due("from GAME " + games, games % 2 == 0 ? guest : host, x.tempt(0, 101, 1));
        }
    }

    private static void temptOthers() {
        Check.says("Integer.MIN_VALUE: others.");
        for (int n : Check.beyond(0, 2)) {
            Twins.leavesAll("tempt(" + n + ", 0, 0)", LOWEST, Twins.MIDWAY, x -> x.tempt(n, 0, 0));
        }
        for (int n : Check.beyond(0, GREATEST)) {
            Twins.leavesAll("tempt(2, " + n + ", 0)", LOWEST, Twins.MIDWAY, x -> x.tempt(2, n, 0));
        }
        for (int n : Check.beyond(0, 1)) {
            Twins.leavesAll("tempt(2, 5, " + n + ")", LOWEST, Twins.MIDWAY, x -> x.tempt(2, 5, n));
        }
        Twins.leavesAll("tempt(0, 0, 0), no TIES", LOWEST, Twins.BOOKED, x -> x.tempt(0, 0, 0));
    }

    // ---- ifGate

    private static void ifGate(int tie, int game, int gate, int want) {
        Twins.leavesAll("ifGate(" + tie + ", " + game + ", " + gate + ")", want, Twins.MIDWAY, x -> x.ifGate(tie, game, gate));
    }

    private static void ifGateWithin() {
        Check.says("LACKS of all clubs together, had a GAME another GATE.");
        // as it is
        ifGate(0, 0, 1000, 636);
        ifGate(0, 1, 150, 636);
        ifGate(1, 0, 333, 636);
        ifGate(2, 0, 21, 636);
        // the POOL 10, 2 each: 0 HAS 20 + 17 + 30 + 2 of 100, 3 HAS 8 + 329 + 2 of 1000
        ifGate(0, 0, 0, 31 + 661);
        // 1329: 797 400 132, the POOL 240, 60 each: 3 HAS 8 + 400 + 60
        ifGate(1, 0, 1333, 532);
        ifGate(1, 0, GREATEST, 0);
        // 3 HAS nothing of 0, and 4 of 4 as the HOST: as it is, with 4 of 24 of 21
        ifGate(2, 0, 0, 640);
        ifGate(2, 0, 1, 639);
    }

    private static void ifGateOfAClosedPool() {
        Check.says("had a GAME another GATE");
        CupPot x = Check.withBook("club 0 0 50;club 0 0 50;cup 0 0 100");
        Check.deeds(x, "tie 0 0 0 1;play 0 10 first");
        due("not CLOSED: nobody gets any", 100, x.ifGate(0, 0, 99));
        x.close(0, 0);
        int[][] rows = {{0, 100}, {1, 99}, {10, 90}, {49, 51}, {50, 50}, {51, 50}, {GREATEST, 50}};
        for (int[] r : rows) {
            due("CLOSED: ifGate(0, 0, " + r[0] + ")", r[1], x.ifGate(0, 0, r[0]));
            due("what it HAS is as it was", 10, x.club(0, 3));
        }
    }

    private static void ifGateOthers() {
        Check.says("had a GAME another GATE. NONE: others.");
        for (int n : Check.beyond(0, 2)) {
            ifGate(n, 0, 5, NONE);
        }
        for (int n : Check.beyond(0, 1)) {
            ifGate(0, n, 5, NONE);
        }
        for (int n : Check.beyond(0, 0)) {
            ifGate(1, n, 5, NONE);
            ifGate(2, n, 5, NONE);
        }
        for (int n : Check.beyond(0, GREATEST)) {
            ifGate(0, 0, n, NONE);
        }
        Twins.leavesAll("ifGate(0, 0, 0), no TIES", NONE, Twins.BOOKED, x -> x.ifGate(0, 0, 0));
        Twins.Step noGame = Twins.then(Twins.BOOKED, x -> x.tie(0, 0, 0, 1));
        Twins.leavesAll("ifGate(0, 0, 0), no GAMES", NONE, noGame, x -> x.ifGate(0, 0, 0));
    }
}
