import java.math.BigInteger;

/** Who holds what and owes whom, at the bounds. Promises 19 to 22, Terms 3. */
public final class EvenBoundsTest {
    private static final int NONE = -1;
    private static final int NOT_NOW = -2;
    private static final int LOWEST = Integer.MIN_VALUE;
    private static final int[] MIDWAY_BALANCES = {-409, 372, -306, 343, 0};
    private static final BigInteger ALL_BITS = BigInteger.ONE.shiftLeft(64);

    public static void main(String[] args) {
        balanceWithin();
        balanceOfNoneSuch();
        heldByTheHost();
        thePotIsBehindTheLast();
        fewestWithin();
        fewestOthers();
        allAreEven();
        sixGroups();
        groupsOfAnyPairs();
        oneGroupOfThirteen();
        groupsWithThePot();
        paysWithin();
        notSoMany();
        paysOthers();
        whatIsLookedAt();
        ofLikeOnesTheLeast();
        asMuchAsMakesOneEven();
        markOfBits();
        markWithoutABook();
        Check.finish("EvenBoundsTest");
    }

    private static void due(String call, long want, long got) {
        Check.due(call, want, got);
    }

    private static String clubs(int n) {
        return "club 0 0 0;".repeat(n);
    }

    private static void balances(CupPot x, int... want) {
        for (int who = 0; who < want.length; who++) {
            due("balance(" + who + ")", want[who], x.balance(who));
        }
        due("none behind THE POT", LOWEST, x.balance(want.length));
    }

    private static void balanceWithin() {
        Check.says("BALANCE (THE POT, too).");
        for (int who = 0; who < 5; who++) {
            int w = who;
            Twins.leavesAll("balance(" + who + ")", MIDWAY_BALANCES[who], Twins.MIDWAY, x -> x.balance(w));
            Twins.leavesAll("balance(" + who + ")", 0, Twins.BOOKED, x -> x.balance(w));
        }
        // the POOL ahead of its closing: 108
        CupPot x = Twins.made(Twins.MIDWAY);
        Twins.undoAll(x, 3);
        balances(x, 547 - 1000, 495 - 150, -333, 333, 108);
    }

    private static void balanceOfNoneSuch() {
        Check.says("Integer.MIN_VALUE: none such.");
        for (int n : Check.beyond(0, 4)) {
            Twins.leavesAll("balance(" + n + ")", LOWEST, Twins.MIDWAY, x -> x.balance(n));
            Twins.leavesAll("balance(" + n + ")", LOWEST, Twins.BOOKED, x -> x.balance(n));
        }
        for (int n = -1; n < 3; n++) {
            int who = n;
            Twins.leavesAll("balance(" + n + "), no BOOK", LOWEST, Twins.TOLD, x -> x.balance(who));
        }
    }

    private static void heldByTheHost() {
        Check.says("HELD: the HOST of each GAME holds its GATE: BALANCE of a club: what it HAS less all GATES that it holds");
        CupPot x = Check.withBook(clubs(2) + "cup 0 0 100 replays 3");
        x.tie(0, 0, 1, 0);
        balances(x, 0, 0, 0);
        int[][] rows = {{0, -1, 1}, {-10, -1, 11}, {-10, -101, 111}, {-1010, -101, 1111}};
        int gate = 1;
        for (int game = 0; game < 4; game++) {
            x.play(0, gate, game < 3 ? 2 : 0);
            balances(x, rows[game]);
            gate *= 10;
        }
        x.close(0, 0);
        balances(x, -1010, 1111 - 101, 0);
    }

    private static void thePotIsBehindTheLast() {
        Check.says("of THE POT (told as the number behind the last club): SHARES of all POOLS less what clubs got of them");
        for (int n = 2; n <= 12; n++) {
            CupPot x = Check.withBook(clubs(n) + "cup 0 60 40;way 0 0 2");
            x.tie(0, 0, n - 1, 0);
            x.play(0, 100, 0);
            due("the last club of " + n, -100, x.balance(n - 1));
            due("THE POT behind " + n, 40, x.balance(n));
            due("none behind it", LOWEST, x.balance(n + 1));
            x.close(0, 0);
            due("THE POT behind " + n, 0, x.balance(n));
        }
    }

    private static void fewestWithin() {
        Check.says("FEWEST payments (what 0), the most groups (1).");
        Twins.leavesAll("fewest(0)", 3, Twins.MIDWAY, x -> x.fewest(0));
        Twins.leavesAll("fewest(1)", 1, Twins.MIDWAY, x -> x.fewest(1));
    }

    private static void fewestOthers() {
        Check.says("the most groups (1). NONE: others, no BOOK.");
        for (int n : Check.beyond(0, 1)) {
            Twins.leavesAll("fewest(" + n + ")", NONE, Twins.MIDWAY, x -> x.fewest(n));
            Twins.leavesAll("fewest(" + n + ")", NONE, Twins.BOOKED, x -> x.fewest(n));
            Twins.leavesAll("fewest(" + n + ")", NONE, Twins.TOLD, x -> x.fewest(n));
        }
        for (int what = 0; what < 2; what++) {
            int w = what;
            Twins.leavesAll("fewest(" + what + "), no BOOK", NONE, Twins.FAULTY, x -> x.fewest(w));
        }
    }

    private static void allAreEven() {
        Check.says("those with a BALANCE that is not 0");
        for (int what = 0; what < 2; what++) {
            int w = what;
            Twins.leavesAll("fewest(" + what + "), all even", 0, Twins.BOOKED, x -> x.fewest(w));
        }
        // a GATE that the HOST has wholly makes nobody uneven
        CupPot x = Check.withBook(clubs(2) + "cup 100 0 0");
        x.tie(0, 0, 0, 1);
        x.play(0, 99999, 0);
        due("fewest(0)", 0, x.fewest(0));
        due("fewest(1)", 0, x.fewest(1));
        due("pays(NONE, 0)", 0, x.pays(NONE, 0));
    }

    private static void sixGroups() {
        Check.says("less the most groups in which these can be parted so that each comes to 0");
        CupPot x = Check.withBook(clubs(12) + "cup 0 100 0");
        for (int pairs = 1; pairs <= 6; pairs++) {
            int i = pairs - 1;
            x.tie(0, 0, i, 11 - i);
            x.play(i, 1 << 2 * i, 0);
            due("groups of " + pairs + " pairs", pairs, x.fewest(1));
            due("payments of " + pairs + " pairs", pairs, x.fewest(0));
        }
        // alike ones are parted in pairs as well
        x = Check.withBook(clubs(12) + "cup 0 100 0");
        for (int i = 0; i < 6; i++) {
            x.tie(0, 0, i, 11 - i);
            x.play(i, 70, 0);
        }
        due("groups of like ones", 6, x.fewest(1));
        due("payments of like ones", 6, x.fewest(0));
    }

    private static void groupsOfAnyPairs() {
        Check.says("the most groups in which these can be parted so that each comes to 0");
        // who are paired: neighbours, at both ends, half of all apart, and turned about
        int[][] orders = {{0, 1, 2, 3, 4, 5, 6, 7, 8, 9, 10, 11}, {1, 0, 3, 2, 5, 4, 7, 6, 9, 8, 11, 10},
            {0, 6, 1, 7, 2, 8, 3, 9, 4, 10, 5, 11}, {11, 0, 1, 10, 9, 2, 3, 8, 7, 4, 5, 6}};
        for (int[] order : orders) {
            for (int pairs = 2; pairs <= 6; pairs++) {
                CupPot x = Check.withBook(clubs(12) + "cup 0 100 0");
                for (int i = 0; i < pairs; i++) {
                    x.tie(0, 0, order[2 * i], order[2 * i + 1]);
                    x.play(i, 1 << 2 * i, 0);
                }
                due("groups of " + pairs + " pairs", pairs, x.fewest(1));
                due("payments of " + pairs + " pairs", pairs, x.fewest(0));
                due("a second time", pairs, x.fewest(1));
            }
        }
        // three of 2, 1 and -3 at each end of the row and between others: -3 2 1 | -30 20 10 | -300 200 100
        int[][] threes = {{0, 1, 2}, {3, 4, 5}, {6, 7, 8}, {9, 10, 11}};
        for (int turn = 0; turn < 3; turn++) {
            CupPot x = Check.withBook(clubs(12) + "cup 0 100 0;cup 0 100 0");
            int amount = 1;
            for (int t = 0; t < 4; t++) {
                int host = threes[t][turn];
                x.tie(0, 0, host, threes[t][(turn + 1) % 3]);
                x.play(2 * t, 2 * amount, 0);
                x.tie(1, 0, host, threes[t][(turn + 2) % 3]);
                x.play(2 * t + 1, amount, 0);
                amount *= 10;
                due("groups of " + (t + 1) + " threes", t + 1, x.fewest(1));
                due("payments of " + (t + 1) + " threes", 2 * (t + 1), x.fewest(0));
            }
        }
    }

    private static void oneGroupOfThirteen() {
        Check.says("FEWEST payments by which all are even");
        // hosts lack 2, 10, 50 .. and guests have 1, 5, 25 ..: no part of these comes to 0 but the whole
        CupPot x = Check.withBook(clubs(12) + "cup 0 50 50");
        int k = 1;
        for (int i = 0; i < 6; i++) {
            x.tie(0, 0, i, 11 - i);
            x.play(i, 2 * k, 0);
            k *= 5;
        }
        for (int who = 0; who <= 12; who++) {
            due("uneven", 1, x.balance(who) != 0 ? 1 : 0);
        }
        due("groups", 1, x.fewest(1));
        due("payments", 12, x.fewest(0));
        due("by the greatest first as many", 12, x.pays(NONE, 0));
        due("the 12th", 1, x.pays(11, 2) > 0 ? 1 : 0);
        due("no 13th", NOT_NOW, x.pays(12, 2));
    }

    private static void groupsWithThePot() {
        Check.says("so that each comes to 0");
        // 0: -100, 1: 60, THE POT 40 | 2: -7, 3: 7
        CupPot x = Check.withBook(clubs(4) + "cup 0 60 40;cup 0 100 0");
        Check.deeds(x, "tie 0 0 0 1;play 0 100 first;tie 1 0 2 3;play 1 7 first");
        balances(x, -100, 60, -7, 7, 40);
        due("groups", 2, x.fewest(1));
        due("payments", 3, x.fewest(0));
        // 2 and 3 as much as 0 and 1 would need: -100, 60, -60, 60, 40
        x.undo();
        Check.deeds(x, "tie 0 0 0 1;play 0 100 first;tie 1 0 2 3;play 1 60 first");
        due("groups", 2, x.fewest(1));
        due("payments", 3, x.fewest(0));
    }

    private static void paysWithin() {
        Check.says("PAYS: how many (i NONE), of the i-th what 0 who, 1 whom, 2 how much.");
        int[][] rows = {{0, 1, 372}, {2, 3, 306}, {0, 3, 37}};
        for (int what = 0; what < 3; what++) {
            int w = what;
            Twins.leavesAll("pays(NONE, " + what + ")", 3, Twins.MIDWAY, x -> x.pays(NONE, w));
            for (int i = 0; i < 3; i++) {
                int at = i;
                Twins.leavesAll("pays(" + i + ", " + what + ")", rows[i][what], Twins.MIDWAY, x -> x.pays(at, w));
            }
        }
    }

    private static void notSoMany() {
        Check.says("-2: there are not so many.");
        for (int what = 0; what < 3; what++) {
            int w = what;
            for (int i : new int[] {3, 4, 13, 100, Integer.MAX_VALUE}) {
                Twins.leavesAll("pays(" + i + ", " + what + ")", NOT_NOW, Twins.MIDWAY, x -> x.pays(i, w));
            }
            for (int i : new int[] {0, 1, Integer.MAX_VALUE}) {
                Twins.leavesAll("pays(" + i + ", " + what + ")", NOT_NOW, Twins.BOOKED, x -> x.pays(i, w));
            }
            Twins.leavesAll("pays(NONE, " + what + ")", 0, Twins.BOOKED, x -> x.pays(NONE, w));
        }
    }

    private static void paysOthers() {
        Check.says("-2: there are not so many. NONE: others, no BOOK");
        for (int what = 0; what < 3; what++) {
            int w = what;
            for (int i : new int[] {-2, -3, Integer.MIN_VALUE}) {
                Twins.leavesAll("pays(" + i + ", " + what + ")", NONE, Twins.MIDWAY, x -> x.pays(i, w));
                Twins.leavesAll("pays(" + i + ", " + what + ")", NONE, Twins.BOOKED, x -> x.pays(i, w));
            }
            for (int i : new int[] {-2, -1, 0, 1}) {
                Twins.leavesAll("pays(" + i + ", " + what + "), no BOOK", NONE, Twins.TOLD, x -> x.pays(i, w));
            }
        }
    }

    private static void whatIsLookedAt() {
        Check.says("(what is looked at, too, with i NONE)");
        for (int what : Check.beyond(0, 2)) {
            for (int i : new int[] {-2, NONE, 0, 2, 3, Integer.MAX_VALUE}) {
                Twins.leavesAll("pays(" + i + ", " + what + ")", NONE, Twins.MIDWAY, x -> x.pays(i, what));
            }
            Twins.leavesAll("pays(NONE, " + what + ")", NONE, Twins.BOOKED, x -> x.pays(NONE, what));
            Twins.leavesAll("pays(NONE, " + what + ")", NONE, Twins.TOLD, x -> x.pays(NONE, what));
        }
    }

    private static void payments(CupPot x, int[][] want) {
        due("pays(NONE, 0)", want.length, x.pays(NONE, 0));
        for (int i = 0; i < want.length; i++) {
            for (int what = 0; what < 3; what++) {
                due("pays(" + i + ", " + what + ")", want[i][what], x.pays(i, what));
            }
        }
    }

    private static void ofLikeOnesTheLeast() {
        Check.says("who has the lowest BALANCE pays the one who has the greatest as much as makes one of both 0 (of like ones the least)");
        CupPot x = Check.withBook(clubs(6) + "cup 0 100 0;cup 0 50 50");
        Check.deeds(x, "tie 0 0 5 2;play 0 50 first;tie 0 0 3 0;play 1 50 first;tie 0 0 1 4;play 2 50 first");
        balances(x, 50, -50, 50, -50, 50, -50, 0);
        payments(x, new int[][] {{1, 0, 50}, {3, 2, 50}, {5, 4, 50}});
        // THE POT comes behind a club that has as much
        x = Check.withBook(clubs(3) + "cup 0 50 50");
        Check.deeds(x, "tie 0 0 0 2;play 0 100 first");
        balances(x, -100, 0, 50, 50);
        payments(x, new int[][] {{0, 2, 50}, {0, 3, 50}});
    }

    private static void asMuchAsMakesOneEven() {
        Check.says("PAYS: as long as there is one");
        // 0 lacks 100; 3 has the first GATE, 2 the second
        int[][] gates = {{40, 60}, {50, 50}, {60, 40}};
        int[][][] want = {{{0, 2, 60}, {0, 3, 40}}, {{0, 2, 50}, {0, 3, 50}}, {{0, 3, 60}, {0, 2, 40}}};
        for (int i = 0; i < 3; i++) {
            CupPot x = Check.withBook(clubs(4) + "cup 0 100 0;cup 0 100 0");
            Check.deeds(x, "tie 0 0 0 3;play 0 " + gates[i][0] + " first;tie 1 0 0 2;play 1 " + gates[i][1] + " first");
            payments(x, want[i]);
        }
        CupPot x = Check.withBook(clubs(4) + "cup 0 100 0;cup 0 100 0");
        Check.deeds(x, "tie 0 0 3 0;play 0 40 first;tie 1 0 2 0;play 1 60 first");
        balances(x, 100, 0, -60, -40, 0);
        payments(x, new int[][] {{2, 0, 60}, {3, 0, 40}});
        // 1 is the least: by a single one
        x = Check.withBook(clubs(2) + "cup 0 100 0");
        Check.deeds(x, "tie 0 0 0 1;play 0 1 first");
        payments(x, new int[][] {{0, 1, 1}});
        Check.deeds(x, "close 0 0");
        payments(x, new int[][] {{0, 1, 1}});
    }

    /** MARK by numbers without an end, cut to 64 bits. */
    private static long markOf(CupPot x) {
        BigInteger h = BigInteger.valueOf(17);
        for (int who = 0; who <= x.count(0); who++) {
            h = h.multiply(BigInteger.valueOf(31)).add(BigInteger.valueOf(x.balance(who))).mod(ALL_BITS);
            h = h.xor(h.shiftRight(13));
        }
        return h.longValue();
    }

    private static void markOfBits() {
        Check.says("h is 17 at first; for each club, then THE POT: h becomes h times 31 and its BALANCE, then h and h moved 13 bits down "
            + "(zeros come in; each bit that is in just one of both), 64 bits that wrap.");
        for (int n = 2; n <= 12; n++) {
            // all even: 17 times 31 again and again, at last beyond 64 bits
            CupPot x = Check.withBook(clubs(n) + "cup 0 30 70");
            due("mark() of " + n + " even clubs", markOf(x), x.mark());
            for (int gate : new int[] {1, 527, 528, 99999}) {
                // 17 * 31 = 527: h is 526, 0, -1, and far below 0
                x.tie(0, 0, 0, n - 1);
                x.play(0, gate, 0);
                due("mark() of " + n + ", GATE " + gate, markOf(x), x.mark());
                Twins.undoAll(x, 2);
            }
            x.tie(0, 0, n - 1, 0);
            x.play(0, 99999, 0);
            due("mark() of " + n + ", the last lacks", markOf(x), x.mark());
        }
        CupPot x = Twins.made(Twins.MIDWAY);
        due("mark()", markOf(x), x.mark());
        Twins.leavesAll("mark()", markOf(x), Twins.MIDWAY, y -> y.mark());
        // by hand: 527; 16337 ^ 1; 506416 ^ 61
        due("mark() of two even clubs", 506381, Check.withBook(clubs(2) + "cup 0 30 70").mark());
    }

    private static void markWithoutABook() {
        Check.says("MARK. 0 without a BOOK.");
        Twins.leavesAll("mark()", 0, x -> { }, x -> x.mark());
        Twins.leavesAll("mark()", 0, Twins.FAULTY, x -> x.mark());
        due("with one", 1, Check.withBook(clubs(2) + "cup 0 30 70").mark() != 0 ? 1 : 0);
    }
}
