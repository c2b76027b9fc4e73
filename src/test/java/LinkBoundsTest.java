/** Clubs among each other, at the bounds. Promises 23 to 27, Terms 3. */
public final class LinkBoundsTest {
    private static final int NONE = -1;
    private static final int NOT_NOW = -2;

    public static void main(String[] args) {
        metWithin();
        metOfNoneSuch();
        metAll();
        chainWithin();
        chainToOneself();
        chainOfNone();
        chainOfNoneSuch();
        longestChain();
        fewestSteps();
        inWithin();
        inOfNoneSuch();
        lostNone();
        rankedWithin();
        rankedOfNoneSuch();
        rankedOfLikeOnes();
        bandsWithin();
        bandsWithoutABook();
        Check.finish("LinkBoundsTest");
    }

    private static void due(String call, long want, long got) {
        Check.due(call, want, got);
    }

    private static CupPot twelve() {
        return Check.withBook("club 0 0 0;".repeat(12) + "cup 0 0 100;cup 0 0 100;cup 0 0 100;cup 0 0 100");
    }

    private static void metWithin() {
        Check.says("Clubs that a club MET, as bits.");
        int[] want = {0b1010, 0b0001, 0b1000, 0b0101};
        for (int club = 0; club < 4; club++) {
            int c = club;
            Twins.leavesAll("met(" + club + ")", want[club], Twins.MIDWAY, x -> x.met(c));
            Twins.leavesAll("met(" + club + ") of nobody", 0, Twins.BOOKED, x -> x.met(c));
        }
    }

    private static void metOfNoneSuch() {
        Check.says("Clubs that a club MET, as bits. NONE: none such.");
        for (int n : new int[] {-1, 4, 12, 31, 32, 33, -32, Integer.MIN_VALUE, Integer.MAX_VALUE}) {
            Twins.leavesAll("met(" + n + ")", NONE, Twins.MIDWAY, x -> x.met(n));
            Twins.leavesAll("met(" + n + ")", NONE, Twins.BOOKED, x -> x.met(n));
        }
        Twins.leavesAll("met(0), no BOOK", NONE, Twins.TOLD, x -> x.met(0));
    }

    private static void metAll() {
        Check.says("MET: two that were in a TIE.");
        // without any GAME; whether at home or not; twice is as once
        CupPot x = twelve();
        x.tie(0, 0, 11, 0);
        due("met(11)", 1, x.met(11));
        due("met(0)", 1 << 11, x.met(0));
        x.tie(1, 0, 0, 11);
        due("met(11) twice", 1, x.met(11));
        x.tie(2, 0, 5, 11);
        x.tie(3, 0, 11, 10);
        due("met(11)", 1 | 1 << 5 | 1 << 10, x.met(11));
        due("met(10)", 1 << 11, x.met(10));
        x.undo();
        due("undone", 0, x.met(10));
    }

    private static void chainWithin() {
        Check.says("A CHAIN from one to another one: the fewest steps, each to somebody who was MET.");
        int[][] want = {{0, 1, 2, 1}, {1, 0, 3, 2}, {2, 3, 0, 1}, {1, 2, 1, 0}};
        for (int from = 0; from < 4; from++) {
            for (int to = 0; to < 4; to++) {
                int a = from;
                int b = to;
                Twins.leavesAll("chain(" + from + ", " + to + ")", want[from][to], Twins.MIDWAY, x -> x.chain(a, b));
            }
        }
    }

    private static void chainToOneself() {
        Check.says("A CHAIN (0 to oneself)");
        CupPot x = twelve();
        for (int club = 0; club < 12; club++) {
            due("chain(" + club + ", " + club + ")", 0, x.chain(club, club));
        }
        x.tie(0, 0, 3, 4);
        due("though it MET somebody", 0, x.chain(3, 3));
    }

    private static void chainOfNone() {
        Check.says("-2: none.");
        Twins.leavesAll("chain(0, 3)", NOT_NOW, Twins.BOOKED, x -> x.chain(0, 3));
        CupPot x = twelve();
        x.tie(0, 0, 0, 1);
        x.tie(0, 0, 2, 3);
        x.tie(1, 0, 3, 11);
        due("chain(0, 2)", NOT_NOW, x.chain(0, 2));
        due("chain(11, 1)", NOT_NOW, x.chain(11, 1));
        due("chain(2, 11)", 2, x.chain(2, 11));
        due("chain(4, 5)", NOT_NOW, x.chain(4, 5));
        x.tie(1, 0, 1, 2);
        due("chain(0, 11), linked", 4, x.chain(0, 11));
        x.undo();
        due("chain(0, 11), undone", NOT_NOW, x.chain(0, 11));
    }

    private static void chainOfNoneSuch() {
        Check.says("-2: none. NONE: none such.");
        for (int n : new int[] {-1, 4, 12, 31, 32, -32, Integer.MIN_VALUE, Integer.MAX_VALUE}) {
            Twins.leavesAll("chain(" + n + ", 0)", NONE, Twins.MIDWAY, x -> x.chain(n, 0));
            Twins.leavesAll("chain(0, " + n + ")", NONE, Twins.MIDWAY, x -> x.chain(0, n));
            Twins.leavesAll("chain(" + n + ", " + n + ")", NONE, Twins.MIDWAY, x -> x.chain(n, n));
        }
        Twins.leavesAll("chain(0, 0), no BOOK", NONE, Twins.TOLD, x -> x.chain(0, 0));
    }

    private static void longestChain() {
        Check.says("the fewest steps");
        CupPot x = twelve();
        int[] order = {7, 0, 11, 3, 8, 1, 10, 2, 9, 4, 6, 5};
        for (int i = 0; i < 11; i++) {
            x.tie(i % 2, 0, order[i], order[i + 1]);
        }
        for (int i = 0; i < 12; i++) {
            due("from the first to " + i, i, x.chain(order[0], order[i]));
            due("from " + i + " to the last", 11 - i, x.chain(order[i], order[11]));
        }
    }

    private static void fewestSteps() {
        Check.says("the fewest steps");
        // a ring of six: the shorter way round
        CupPot x = twelve();
        int[] want = {0, 1, 2, 3, 2, 1};
        for (int i = 0; i < 6; i++) {
            x.tie(i % 2, 0, i, (i + 1) % 6);
        }
        for (int i = 0; i < 6; i++) {
            due("chain(0, " + i + ")", want[i], x.chain(0, i));
            due("chain(" + i + ", 0)", want[i], x.chain(i, 0));
        }
    }

    private static void inWithin() {
        Check.says("Clubs that are IN a CUP yet, as bits.");
        for (int cup = 0; cup < 2; cup++) {
            int c = cup;
            Twins.leavesAll("in(" + cup + ")", 0b1001, Twins.MIDWAY, x -> x.in(c));
            Twins.leavesAll("in(" + cup + ") of nobody", 0, Twins.BOOKED, x -> x.in(c));
        }
    }

    private static void inOfNoneSuch() {
        Check.says("Clubs that are IN a CUP yet, as bits. NONE: none such.");
        for (int n : Check.beyond(0, 1)) {
            Twins.leavesAll("in(" + n + ")", NONE, Twins.MIDWAY, x -> x.in(n));
            Twins.leavesAll("in(" + n + ")", NONE, Twins.BOOKED, x -> x.in(n));
        }
        Twins.leavesAll("in(0), no BOOK", NONE, Twins.TOLD, x -> x.in(0));
    }

    private static void lostNone() {
        Check.says("IN a CUP yet: clubs that are in a TIE of it, and lost none of it.");
        CupPot x = twelve();
        for (int i = 0; i < 6; i++) {
            x.tie(3, 0, i, 11 - i);
        }
        due("all twelve", 0xfff, x.in(3));
        x.play(0, 1, 2);
        due("a draw puts nobody out", 0xfff, x.in(3));
        int in = 0xfff;
        for (int i = 0; i < 6; i++) {
            x.play(i, 1, i % 2);
            in &= ~(1 << (i % 2 == 0 ? 11 - i : i));
            due("TIE " + i + " is DECIDED", in, x.in(3));
        }
        // 0, 10, 2, 8, 4, 6 won
        x.close(3, 0);
        due("closing puts nobody out", in, x.in(3));
        x.tie(3, 1, 0, 10);
        x.play(6, 1, 1);
        due("who lost in ROUND 1", in & ~1, x.in(3));
        due("of another CUP", 0, x.in(2));
        // who lost in one CUP is in another one yet
        x.tie(2, 0, 0, 11);
        due("of another CUP", 1 | 1 << 11, x.in(2));
        due("of this one", in & ~1, x.in(3));
    }

    private static void rankedWithin() {
        Check.says("The i-th club by what it HAS, the most first");
        int[] want = {0, 1, 3, 2};
        for (int i = 0; i < 4; i++) {
            int at = i;
            Twins.leavesAll("ranked(" + i + ")", want[i], Twins.MIDWAY, x -> x.ranked(at));
        }
    }

    private static void rankedOfNoneSuch() {
        Check.says("of like ones the least. NONE: none such.");
        for (int n : Check.beyond(0, 3)) {
            Twins.leavesAll("ranked(" + n + ")", NONE, Twins.MIDWAY, x -> x.ranked(n));
            Twins.leavesAll("ranked(" + n + ")", NONE, Twins.BOOKED, x -> x.ranked(n));
        }
        for (int n : new int[] {-1, 0, 1}) {
            Twins.leavesAll("ranked(" + n + "), no BOOK", NONE, Twins.TOLD, x -> x.ranked(n));
        }
        CupPot x = twelve();
        due("the twelfth", 11, x.ranked(11));
        due("no 13th", NONE, x.ranked(12));
    }

    private static void rankedOfLikeOnes() {
        Check.says("of like ones the least");
        CupPot x = Check.withBook("club 0 0 0;".repeat(6) + "cup 50 50 0");
        for (int i = 0; i < 6; i++) {
            due("all alike: ranked(" + i + ")", i, x.ranked(i));
        }
        Check.deeds(x, "tie 0 0 5 2;play 0 100 first;tie 0 0 1 3;play 1 98 first");
        int[] want = {2, 5, 1, 3, 0, 4};
        for (int i = 0; i < 6; i++) {
            due("ranked(" + i + ")", want[i], x.ranked(i));
        }
        // 1 more or less of what it HAS
        for (int gate : new int[] {97, 99, 101}) {
            x = Check.withBook("club 0 0 0;".repeat(4) + "cup 100 0 0");
            Check.deeds(x, "tie 0 0 3 0;play 0 99 first;tie 0 0 2 1;play 1 " + gate + " first");
            due("GATE " + gate, gate >= 99 ? 2 : 3, x.ranked(0));
            due("GATE " + gate, gate >= 99 ? 3 : 2, x.ranked(1));
        }
    }

    private static void bandsWithin() {
        Check.says("The groups of clubs that are linked by CHAINS: how many.");
        for (int n = 2; n <= 12; n++) {
            CupPot x = Check.withBook("club 0 0 0;".repeat(n) + "cup 0 0 100;cup 0 0 100");
            due("each by itself", n, x.bands());
            for (int i = 0; i < n - 1; i++) {
                x.tie(i % 2, 0, i, i + 1);
                due("linked up to " + (i + 1), n - 1 - i, x.bands());
            }
            x.undo();
            due("undone", 2, x.bands());
        }
        Twins.leavesAll("bands()", 1, Twins.MIDWAY, x -> x.bands());
        Twins.leavesAll("bands()", 4, Twins.BOOKED, x -> x.bands());
        CupPot x = twelve();
        for (int i = 0; i < 6; i++) {
            x.tie(0, 0, i, 11 - i);
        }
        due("six pairs", 6, x.bands());
        x.tie(1, 0, 0, 11);
        due("a pair that MET again", 6, x.bands());
        x.tie(1, 0, 1, 2);
        due("two pairs linked", 5, x.bands());
    }

    private static void bandsWithoutABook() {
        Check.says("how many. NONE: no BOOK.");
        Twins.leavesAll("bands()", NONE, x -> { }, x -> x.bands());
        Twins.leavesAll("bands()", NONE, Twins.TOLD, x -> x.bands());
        Twins.leavesAll("bands()", NONE, Twins.FAULTY, x -> x.bands());
    }
}
