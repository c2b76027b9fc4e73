/** How a GATE is split and a POOL shared out, at the bounds that Terms 2 names. */
public final class SplitBoundsTest {
    private static final int NOT_NOW = -2;
    private static final int GREATEST = 99999;

    public static void main(String[] args) {
        dueOfHostAndGuest();
        hostFirst();
        guestFirst();
        byBoth();
        nothingDue();
        greatestDue();
        fromNeutralOn();
        replaysParts();
        halfOfBoth();
        leftByCutting();
        floorOrRest();
        fromHostThenPool();
        lacksNothing();
        floorInGameZeroAlone();
        floors();
        poolOfACupAndARound();
        poolByWays();
        whatIsLeftIsCarried();
        notClosedCarriesNothing();
        lastRounds();
        Check.finish("SplitBoundsTest");
    }

    private static void due(String call, long want, long got) {
        Check.due(call, want, got);
    }

    /** GAME 0 of ROUND 0; want tells what 2 .. 8 of game(). The other DUE of both clubs never count. */
    private static void game(String cup, int cost, int fare, int gate, int... want) {
        CupPot x = Check.withBook("club " + cost + " 7777 0;club 8888 " + fare + " 0;cup " + cup);
        x.tie(0, 0, 0, 1);
        x.play(0, gate, 0);
        row(x, cup + ", GATE " + gate, 0, 0, want);
    }

    private static void row(CupPot x, String of, int tie, int game, int... want) {
        for (int i = 0; i < want.length; i++) {
            due(of + ": game(" + tie + ", " + game + ", " + (i + 2) + ")", want[i], x.game(tie, game, i + 2));
        }
    }

    // ---- EXPENSES

    private static void dueOfHostAndGuest() {
        Check.says("A GAME: DUE of the HOST: COST, of the GUEST: FARE");
        CupPot x = Check.withBook("club 1 20 0;club 300 4000 0;cup 100 0 0 replays 3");
        x.tie(0, 0, 1, 0);
        for (int game = 0; game < 4; game++) {
            x.play(0, 5000, game < 3 ? 2 : 0);
            boolean atHome = game % 2 == 0;
            row(x, "GAME " + game, 0, game, atHome ? 300 : 1, atHome ? 20 : 4000, atHome ? 4680 : 999);
        }
        Check.says("REST: GATE less EXPENSES");
        for (int gate : new int[] {0, 1, 319, 320, 321, GREATEST}) {
            game("100 0 0", 300, 20, gate, Math.min(gate, 300), Math.max(0, Math.min(gate - 300, 20)), Math.max(0, gate - 320));
        }
    }

    private static void hostFirst() {
        Check.says("0: the HOST's DUE, as far as GATE goes, then the GUEST's");
        int[][] rows = {{0, 0, 0, 0}, {1, 1, 0, 0}, {9, 9, 0, 0}, {10, 10, 0, 0}, {11, 10, 1, 0}, {14, 10, 4, 0}, {15, 10, 5, 0}, {16, 10, 5, 1}};
        for (int[] r : rows) {
            game("60 30 10 first 0", 10, 5, r[0], r[1], r[2], r[3]);
            game("60 30 10", 10, 5, r[0], r[1], r[2], r[3]);
        }
    }

    private static void guestFirst() {
        Check.says("1: the GUEST's, then the HOST's");
        int[][] rows = {{0, 0, 0, 0}, {1, 0, 1, 0}, {4, 0, 4, 0}, {5, 0, 5, 0}, {6, 1, 5, 0}, {14, 9, 5, 0}, {15, 10, 5, 0}, {16, 10, 5, 1}};
        for (int[] r : rows) {
            game("60 30 10 first 1", 10, 5, r[0], r[1], r[2], r[3]);
        }
    }

    private static void byBoth() {
        Check.says("2: if both DUE are more than GATE together: of each GATE times its DUE by both, cut, "
            + "and what is left by that to the HOST; else both whole.");
        // 10 and 5 by 15: of 4 it is 2 and 1, 1 is left
        int[][] rows = {{0, 0, 0, 0}, {1, 1, 0, 0}, {2, 2, 0, 0}, {3, 2, 1, 0}, {4, 3, 1, 0}, {5, 4, 1, 0}, {6, 4, 2, 0},
            {12, 8, 4, 0}, {13, 9, 4, 0}, {14, 10, 4, 0}, {15, 10, 5, 0}, {16, 10, 5, 1}};
        for (int[] r : rows) {
            game("60 30 10 first 2", 10, 5, r[0], r[1], r[2], r[3]);
        }
        // the other way round the HOST's is the lesser one: of 14 it is 4 and 9, 1 is left
        int[][] turned = {{1, 1, 0, 0}, {2, 1, 1, 0}, {3, 1, 2, 0}, {14, 5, 9, 0}, {15, 5, 10, 0}, {16, 5, 10, 1}};
        for (int[] r : turned) {
            game("60 30 10 first 2", 5, 10, r[0], r[1], r[2], r[3]);
        }
    }

    private static void nothingDue() {
        Check.says("COST 0 .. 9999, FARE 0 .. 9999");
        for (int first = 0; first < 3; first++) {
            String cup = "100 0 0 first " + first;
            game(cup, 0, 0, 0, 0, 0, 0, 0, 0, 0, 0);
            game(cup, 0, 0, 1, 0, 0, 1, 1, 0, 0, 0);
            game(cup, 0, 5, 0, 0, 0, 0, 0, 0, 0, 0);
            game(cup, 0, 5, 4, 0, 4, 0, 0, 0, 0, 0);
            game(cup, 0, 5, 5, 0, 5, 0, 0, 0, 0, 0);
            game(cup, 0, 5, 6, 0, 5, 1, 1, 0, 0, 0);
            game(cup, 5, 0, 4, 4, 0, 0, 0, 0, 0, 0);
            game(cup, 5, 0, 5, 5, 0, 0, 0, 0, 0, 0);
            game(cup, 5, 0, 6, 5, 0, 1, 1, 0, 0, 0);
        }
    }

    private static void greatestDue() {
        Check.says("COST 0 .. 9999, FARE 0 .. 9999, GUARD 0 .. 99999");
        int[] hosts = {9999, 9998, 9999};
        for (int first = 0; first < 3; first++) {
            String cup = "60 30 10 first " + first;
            game(cup, 9999, 9999, 19997, hosts[first], 19997 - hosts[first], 0);
            game(cup, 9999, 9999, 19998, 9999, 9999, 0, 0, 0, 0, 0);
            game(cup, 9999, 9999, 19999, 9999, 9999, 1, 1, 0, 0, 0);
            // 80001: 48000.6, 24000.3, 8000.1
            game(cup, 9999, 9999, GREATEST, 9999, 9999, 80001, 48001, 24000, 8000, 0);
        }
    }

    // ---- NEUTRAL, PARTS

    /** Eight clubs, so that there are ROUNDS 0 to 2: TIES 0 to 3, 4 and 5, 6; all GATES are alike. */
    private static CupPot threeRounds(String cup, int gate) {
        CupPot x = Check.withBook("club 10 4 0;".repeat(8) + "cup " + cup);
        int tie = 0;
        for (int round = 0; round < 3; round++) {
            int step = 2 << round;
            for (int first = 0; first < 8; first += step) {
                due("tie()", tie, x.tie(0, round, first, first + step / 2));
                x.play(tie, gate, 2);
                x.play(tie, gate, 0);
                tie++;
            }
            x.close(0, round);
        }
        return x;
    }

    private static void fromNeutralOn() {
        Check.says("in ROUNDS from NEUTRAL on: FARE of both");
        // 10 and 4 of 114: 100 by 61 30 9, and 60 lack of 90 | 4 and 4: 106 by 45 45 10, 2 are left
        int[] home = {10, 4, 100, 1, 90, 9, 60};
        int[] neutral = {4, 4, 106, 49, 47, 10, 0};
        // replays have no FLOOR
        int[] homeReplay = {10, 4, 100, 61, 30, 9, 0};
        int[] ties = {0, 4, 6};
        for (int from = 1; from <= 6; from++) {
            CupPot x = threeRounds("61 30 9 floor 90 neutral " + from, 114);
            for (int round = 0; round < 3; round++) {
                String of = "NEUTRAL " + from + ", ROUND " + round;
                row(x, of, ties[round], 0, round < from ? home : neutral);
                row(x, of, ties[round], 1, round < from ? homeReplay : neutral);
            }
        }
        CupPot x = threeRounds("61 30 9 floor 90", 114);
        for (int round = 0; round < 3; round++) {
            row(x, "NEUTRAL not told", ties[round], 0, home);
        }
    }

    private static void replaysParts() {
        Check.says("PARTS: of replays (GAMES from 1 on) those");
        CupPot x = Check.withBook("club 0 0 0;club 0 0 0;cup 60 30 10 replays 3 again 15 25 60");
        x.tie(0, 0, 0, 1);
        for (int game = 0; game < 4; game++) {
            x.play(0, 100, game < 3 ? 2 : 0);
        }
        row(x, "GAME 0", 0, 0, 0, 0, 100, 60, 30, 10, 0);
        for (int game = 1; game < 4; game++) {
            row(x, "a replay", 0, game, 0, 0, 100, 15, 25, 60, 0);
        }
        // in ROUNDS from NEUTRAL on half of these: 4 and 4 of 108
        x = threeRounds("60 30 10 again 15 26 59 neutral 2", 108);
        row(x, "GAME 0", 6, 0, 4, 4, 100, 45, 45, 10, 0);
        row(x, "a replay", 6, 1, 4, 4, 100, 20, 20, 60, 0);
    }

    private static void halfOfBoth() {
        Check.says("in ROUNDS from NEUTRAL on HOST and GUEST half of both together, cut, each, "
            + "and what is left by that more to the POOL");
        String[] parts = {"0 0 100", "1 0 99", "0 1 99", "1 1 98", "2 1 97", "50 49 1", "99 0 1", "100 0 0", "0 100 0", "50 50 0"};
        int[][] want = {{0, 0, 100}, {0, 0, 100}, {0, 0, 100}, {1, 1, 98}, {1, 1, 98}, {49, 49, 2}, {49, 49, 2},
            {50, 50, 0}, {50, 50, 0}, {50, 50, 0}};
        for (int i = 0; i < parts.length; i++) {
            CupPot x = threeRounds(parts[i] + " neutral 2", 108);
            row(x, "half of " + parts[i], 6, 0, 4, 4, 100, want[i][0], want[i][1], want[i][2], 0);
        }
        // REST 99: what is left goes by ODD, as ever
        CupPot x = threeRounds("60 30 10 neutral 2 odd 1", 107);
        row(x, "half", 6, 0, 4, 4, 99, 44, 46, 9, 0);
    }

    private static void leftByCutting() {
        Check.says("SHARES: REST times PARTS by 100, cut; what is left by that to the HOST (ODD 0), the GUEST (1), the POOL (2).");
        int[][] rows = {{0, 0, 0, 0}, {1, 0, 0, 0}, {2, 0, 0, 0}, {3, 1, 0, 0}, {4, 1, 1, 1}, {99, 33, 32, 32}, {100, 34, 33, 33},
            {101, 34, 33, 33}, {GREATEST, 33999, 32999, 32999}};
        for (int[] r : rows) {
            int left = r[0] - r[1] - r[2] - r[3];
            game("34 33 33", 0, 0, r[0], 0, 0, r[0], r[1] + left, r[2], r[3], 0);
            game("34 33 33 odd 0", 0, 0, r[0], 0, 0, r[0], r[1] + left, r[2], r[3], 0);
            game("34 33 33 odd 1", 0, 0, r[0], 0, 0, r[0], r[1], r[2] + left, r[3], 0);
            game("34 33 33 odd 2", 0, 0, r[0], 0, 0, r[0], r[1], r[2], r[3] + left, 0);
        }
        // the whole to one of them leaves nothing
        game("100 0 0 odd 2", 0, 0, GREATEST, 0, 0, GREATEST, GREATEST, 0, 0, 0);
        game("0 100 0 odd 0", 0, 0, GREATEST, 0, 0, GREATEST, 0, GREATEST, 0, 0);
        game("0 0 100 odd 1", 0, 0, GREATEST, 0, 0, GREATEST, 0, 0, GREATEST, 0);
    }

    // ---- FLOOR

    private static void floorOrRest() {
        Check.says("the GUEST's SHARE is the lesser of FLOOR and REST at least");
        String cup = "60 10 30 floor 50";
        game(cup, 0, 0, 0, 0, 0, 0, 0, 0, 0, 0);
        game(cup, 0, 0, 1, 0, 0, 1, 0, 1, 0, 1);
        // 29 and 2 left, 4, 14
        game(cup, 0, 0, 49, 0, 0, 49, 0, 49, 0, 45);
        game(cup, 0, 0, 50, 0, 0, 50, 0, 50, 0, 45);
        // 30 and 1 left, 5, 15
        game(cup, 0, 0, 51, 0, 0, 51, 0, 50, 1, 45);
        // REST counts, not GATE; FARE is no part of it
        game(cup, 10, 5, 15, 10, 5, 0, 0, 0, 0, 0);
        game(cup, 10, 5, 64, 10, 5, 49, 0, 49, 0, 45);
        game(cup, 10, 5, 115, 10, 5, 100, 20, 50, 30, 40);
    }

    private static void fromHostThenPool() {
        Check.says("what LACKS is taken from the HOST's SHARE, as far as that goes, then from the POOL's");
        String cup = "60 10 30 floor 50";
        // 42, 7, 21: the HOST's is 1 too little
        game(cup, 0, 0, 70, 0, 0, 70, 0, 50, 20, 43);
        // 42 and 1 left: just enough
        game(cup, 0, 0, 71, 0, 0, 71, 0, 50, 21, 43);
        // 43 and 1 left: 1 more than enough
        game(cup, 0, 0, 72, 0, 0, 72, 1, 50, 21, 43);
        // no HOST's SHARE at all
        game("0 10 90 floor 50", 0, 0, 100, 0, 0, 100, 0, 50, 50, 40);
        // no POOL's
        game("90 10 0 floor 50", 0, 0, 100, 0, 0, 100, 50, 50, 0, 40);
    }

    private static void lacksNothing() {
        Check.says("8 what LACKED");
        String cup = "60 10 30 floor 50";
        game(cup, 0, 0, 490, 0, 0, 490, 293, 50, 147, 1);
        // 299 and 2 left, 49, 149
        game(cup, 0, 0, 499, 0, 0, 499, 300, 50, 149, 1);
        game(cup, 0, 0, 500, 0, 0, 500, 300, 50, 150, 0);
        game(cup, 0, 0, 510, 0, 0, 510, 306, 51, 153, 0);
        // what is left by cutting is the GUEST's ahead of that: 49 and 2
        game(cup + " odd 1", 0, 0, 499, 0, 0, 499, 299, 51, 149, 0);
    }

    private static void floorInGameZeroAlone() {
        Check.says("In GAME 0 of ROUNDS ahead of NEUTRAL");
        CupPot x = Check.withBook("club 0 0 0;club 0 0 0;cup 60 10 30 floor 50 replays 3");
        x.tie(0, 0, 0, 1);
        for (int game = 0; game < 4; game++) {
            x.play(0, 100, game < 3 ? 2 : 0);
        }
        row(x, "GAME 0", 0, 0, 0, 0, 100, 20, 50, 30, 40);
        for (int game = 1; game < 4; game++) {
            row(x, "a replay", 0, game, 0, 0, 100, 60, 10, 30, 0);
        }
    }

    private static void floors() {
        Check.says("FLOOR 0 .. 99999 (0)");
        game("60 0 40", 0, 0, 100, 0, 0, 100, 60, 0, 40, 0);
        game("60 0 40 floor 0", 0, 0, 100, 0, 0, 100, 60, 0, 40, 0);
        game("60 0 40 floor 1", 0, 0, 100, 0, 0, 100, 59, 1, 40, 1);
        game("60 10 30 floor 99999", 0, 0, GREATEST, 0, 0, GREATEST, 0, GREATEST, 0, 90000);
        game("60 10 30 floor 99998", 0, 0, GREATEST, 0, 0, GREATEST, 0, 99998, 1, 89999);
    }

    // ---- POOLS

    private static void poolOfACupAndARound() {
        Check.says("A POOL is of a CUP and a ROUND: SHARES of all its GAMES, and what is CARRIED into it.");
        CupPot x = Check.withBook("club 0 0 0;".repeat(4) + "cup 0 0 100;cup 50 0 50");
        Check.deeds(x, "tie 0 0 0 1;tie 1 0 0 1;tie 0 0 2 3;play 0 7 drawn;play 0 8 first;play 1 20 first;play 2 100 first");
        due("CUP 0, ROUND 0", 115, x.pool(0, 0, 0));
        due("CUP 1, ROUND 0", 10, x.pool(1, 0, 0));
        due("CUP 0, ROUND 1", 0, x.pool(0, 1, 0));
        due("close(0, 0)", 57, x.close(0, 0));
        due("CUP 0, ROUND 1", 1, x.pool(0, 1, 0));
        due("CUP 1, ROUND 1", 0, x.pool(1, 1, 0));
        x.tie(0, 1, 0, 2);
        x.play(3, 4, 1);
        due("CUP 0, ROUND 1", 5, x.pool(0, 1, 0));
        due("CUP 0, ROUND 0 as it was", 115, x.pool(0, 0, 0));
    }

    /** Two TIES with that in their POOL; 1 and 2 win. */
    private static CupPot twoTies(int way, int pool) {
        CupPot x = Check.withBook("club 0 0 0;".repeat(4) + "cup 0 0 100;way 0 0 " + way);
        x.tie(0, 0, 0, 1);
        x.tie(0, 0, 2, 3);
        x.play(0, pool - pool / 2, 1);
        x.play(1, pool / 2, 0);
        return x;
    }

    private static void poolByWays() {
        Check.says("0 each WINNER, 1 each club, 2 each loser of its TIES gets the POOL by how many they are, cut; 3 nobody gets anything.");
        int[] takers = {2, 4, 2, 0};
        int[] taking = {0b0110, 0b1111, 0b1001, 0};
        for (int way = 0; way < 4; way++) {
            for (int pool : new int[] {0, 1, 2, 3, 4, 5, 7, 8, 9, 99999, 199998}) {
                CupPot x = twoTies(way, pool);
                int each = takers[way] == 0 ? 0 : pool / takers[way];
                String of = "WAY " + way + ", POOL " + pool;
                due(of + ": what each got, not CLOSED", 0, x.pool(0, 0, 2));
                due(of + ": how many did, not CLOSED", 0, x.pool(0, 0, 3));
                due(of + ": close()", each, x.close(0, 0));
                due(of + ": how much was in it", pool, x.pool(0, 0, 0));
                due(of + ": what each got", each, x.pool(0, 0, 2));
                due(of + ": how many did", takers[way], x.pool(0, 0, 3));
                due(of + ": CARRIED", pool - each * takers[way], x.pool(0, 1, 1));
                for (int club = 0; club < 4; club++) {
                    due(of + ": club " + club, (taking[way] >> club & 1) * each, x.club(club, 7));
                }
            }
        }
    }

    private static void whatIsLeftIsCarried() {
        Check.says("What is left is CARRIED into the next ROUND's");
        // ROUND 0: 8 GAMES of 114: 4 times 9 and 9; ROUND 1: 4; ROUND 2: 2
        CupPot x = threeRounds("61 30 9;way 0 0 3;way 0 1 3;way 0 2 3", 114);
        int[] in = {72, 108, 126, 126, 0, 0};
        int[] carried = {0, 72, 108, 126, 0, 0};
        for (int round = 0; round < 6; round++) {
            due("how much, ROUND " + round, in[round], x.pool(0, round, 0));
            due("CARRIED, ROUND " + round, carried[round], x.pool(0, round, 1));
        }
        due("THE POT has it", 126, x.balance(8));
        // 72 by 4 is 18, 36 by 4 is 9, 18 by 1 is 18
        x = threeRounds("61 30 9;way 0 1 1", 114);
        int[] each = {18, 9, 18, 0, 0, 0};
        for (int round = 0; round < 6; round++) {
            due("what each got, ROUND " + round, each[round], x.pool(0, round, 2));
            due("CARRIED, ROUND " + round, 0, x.pool(0, round, 1));
        }
    }

    private static void notClosedCarriesNothing() {
        Check.says("2 what each got (0: not CLOSED)");
        CupPot x = twoTies(3, 9);
        due("not CLOSED", 0, x.pool(0, 1, 1));
        x.close(0, 0);
        due("CLOSED", 9, x.pool(0, 1, 1));
        due("ROUND 1 is not", 0, x.pool(0, 2, 1));
        x.undo();
        due("not CLOSED any more", 0, x.pool(0, 1, 1));
    }

    private static void lastRounds() {
        Check.says("of ROUND 5: KEPT by the CUP");
        // 12 clubs make 6, 3, 1 winners: no call reaches ROUND 3; KeptTest looks at ROUND 5 from outside
        CupPot x = threeRounds("0 0 100;way 0 2 3", 114);
        for (int other = 1; other < 8; other++) {
            due("tie() of ROUND 3", NOT_NOW, x.tie(0, 3, 0, other));
        }
        due("close() of ROUND 3", NOT_NOW, x.close(0, 3));
        due("close() of ROUND 5", NOT_NOW, x.close(0, 5));
        due("KEPT", 0, x.cup(0, 11));
        due("KEPT", 0, x.all(5));
    }
}
