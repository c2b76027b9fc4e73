/** What there is, asked for within bounds and beyond them. Promises 13 to 18, 34; LACKS of Terms 3. */
public final class LookBoundsTest {
    private static final int NONE = -1;
    private static final int NOT_NOW = -2;
    private static final Twins.Step[] BEFORE = {Twins.BOOKED, Twins.MIDWAY};

    public static void main(String[] args) {
        clubWithin();
        clubOthers();
        has();
        lacks();
        toppedByNothing();
        cupWithin();
        cupOthers();
        tieWithin();
        tieOthers();
        gameWithin();
        gameOthers();
        poolWithin();
        poolOthers();
        allWithin();
        allOthers();
        greatestSums();
        countWithin();
        countOthers();
        countWithoutABook();
        eachLookAtOnce();
        Check.finish("LookBoundsTest");
    }

    private static void due(String call, long want, long got) {
        Check.due(call, want, got);
    }

    private static void clubWithin() {
        Check.says("Of a club 0 COST, 1 FARE, 2 GUARD, 3 HAS, 4 of that EXPENSES, 5 SHARES as HOST, 6 as GUEST, "
            + "7 of POOLS, 8 LACKS, 9 TOPPED, 10 GAMES, 11 TIES that it WON.");
        int[][] rows = {
            {10, 20, 100, 591, 10 + 20 + 17, 487, 30, 27, 0, 0, 3, 1},
            {30, 5, 50, 522, 5 + 30, 60, 400, 27, 0, 0, 2, 0},
            {0, 7, 0, 27, 0, 0, 0, 27, 0, 0, 1, 0},
            {4, 4, 1000, 364, 4 + 4, 0, 329, 27, 636, 0, 2, 1}};
        CupPot x = Twins.made(Twins.MIDWAY);
        for (int club = 0; club < 4; club++) {
            for (int what = 0; what < 12; what++) {
                due("club(" + club + ", " + what + ")", rows[club][what], x.club(club, what));
            }
        }
        for (int what = 0; what < 12; what++) {
            int w = what;
            Twins.leavesAll("club(3, " + what + ")", rows[3][what], Twins.MIDWAY, y -> Picture.club(y, 3, w));
        }
    }

    private static void clubOthers() {
        Check.says("NoSuchElementException: others.");
        for (Twins.Step before : BEFORE) {
            for (int n : Check.beyond(0, 3)) {
                for (int what : new int[] {0, 3, 11}) {
                    Twins.leavesAll("club(" + n + ", " + what + ")", Twins.THROWN, before, x -> Picture.club(x, n, what));
                }
            }
            for (int n : Check.beyond(0, 11)) {
                Twins.leavesAll("club(0, " + n + ")", Twins.THROWN, before, x -> Picture.club(x, 0, n));
                Twins.leavesAll("club(3, " + n + ")", Twins.THROWN, before, x -> Picture.club(x, 3, n));
                Twins.leavesAll("club(-1, " + n + ")", Twins.THROWN, before, x -> Picture.club(x, -1, n));
            }
        }
    }

    private static void has() {
        Check.says("A club HAS: its EXPENSES, SHARES, what it got of POOLS.");
        CupPot x = Check.withBook("club 10 5 0;club 10 5 0;cup 50 20 30;cup 50 20 30");
        due("nothing yet", 0, x.club(0, 3));
        x.tie(0, 0, 0, 1);
        due("a TIE without a GAME", 0, x.club(0, 3));
        x.play(0, 0, 2);
        due("a GATE of 0", 0, x.club(0, 3));
        due("a GAME it is", 1, x.club(0, 10));
        x.play(0, 115, 1);
        due("as GUEST", 5 + 20, x.club(0, 3));
        due("as HOST", 10 + 50, x.club(1, 3));
        x.close(0, 0);
        due("nothing of the POOL", 5 + 20, x.club(0, 3));
        due("the whole POOL", 10 + 50 + 30, x.club(1, 3));
        // of all CUPS together
        x.tie(1, 0, 1, 0);
        x.play(1, 115, 1);
        due("of both CUPS", 25 + 25, x.club(0, 3));
        due("of both CUPS", 90 + 60, x.club(1, 3));
    }

    private static void lacks() {
        Check.says("It LACKS what it HAS less than GUARD.");
        int[][] rows = {{0, 0}, {1, 0}, {99, 0}, {100, 0}, {101, 1}, {99999, 99899}};
        for (int[] r : rows) {
            CupPot x = Check.withBook("club 0 0 " + r[0] + ";club 0 0 " + r[0] + ";cup 100 0 0");
            due("HAS nothing, GUARD " + r[0], r[0], x.club(0, 8));
            x.tie(0, 0, 0, 1);
            x.play(0, 100, 0);
            due("HAS 100", 100, x.club(0, 3));
            due("HAS 100, GUARD " + r[0], r[1], x.club(0, 8));
            due("HAS nothing, GUARD " + r[0], r[0], x.club(1, 8));
        }
    }

    private static void toppedByNothing() {
        Check.says("TOPPED: of all that CUPS KEPT together");
        CupPot x = Twins.made(Twins.MIDWAY);
        due("nothing is KEPT", 0, x.all(5));
        for (int club = 0; club < 4; club++) {
            due("nobody is TOPPED", 0, x.club(club, 9));
        }
    }

    private static void cupWithin() {
        Check.says("Of a CUP 0 .. 2 PARTS, 3 FIRST, 4 FLOOR, 5 REPLAYS, 6 .. 8 PARTS of replays, 9 NEUTRAL, 10 ODD, "
            + "11 KEPT, 12 GATES of all its GAMES, 13 TIES.");
        int[][] rows = {
            {60, 30, 10, 0, 400, 1, 60, 30, 10, 1, 0, 0, 1483, 2},
            {50, 25, 25, 2, 0, 1, 20, 60, 20, 6, 2, 0, 21, 1}};
        CupPot x = Twins.made(Twins.MIDWAY);
        for (int cup = 0; cup < 2; cup++) {
            for (int what = 0; what < 14; what++) {
                int c = cup;
                int w = what;
                due("cup(" + cup + ", " + what + ")", rows[cup][what], x.cup(cup, what));
                Twins.leavesAll("cup(" + cup + ", " + what + ")", rows[cup][what], Twins.MIDWAY, y -> y.cup(c, w));
            }
        }
    }

    private static void cupOthers() {
        Check.says("13 TIES. NONE: others.");
        for (Twins.Step before : BEFORE) {
            for (int n : Check.beyond(0, 1)) {
                for (int what : new int[] {0, 12, 14}) {
                    Twins.leavesAll("cup(" + n + ", " + what + ")", NONE, before, x -> x.cup(n, what));
                }
            }
            for (int n : Check.beyond(0, 13)) {
                Twins.leavesAll("cup(1, " + n + ")", NONE, before, x -> x.cup(1, n));
            }
        }
    }

    private static void tieWithin() {
        Check.says("Of a TIE 0 CUP, 1 ROUND, 2 FIRST, 3 SECOND, 4 GAMES, 5 the club that WON (-2: not DECIDED), "
            + "6 GATES together, 7 what the FIRST HAS of it, 8 what the SECOND HAS, 9 what went to POOLS.");
        int[][] rows = {
            {0, 0, 0, 1, 2, 0, 1150, 10 + 487 + 20 + 30, 5 + 400 + 30 + 60, 98 + 10},
            {0, 0, 2, 3, 1, 3, 333, 0, 4 + 329, 0},
            {1, 0, 3, 0, 1, NOT_NOW, 21, 4, 17, 0},
            {0, 1, 3, 0, 0, NOT_NOW, 0, 0, 0, 0}};
        CupPot x = Twins.made(Twins.MIDWAY);
        x.tie(0, 1, 3, 0);
        for (int tie = 0; tie < 4; tie++) {
            for (int what = 0; what < 10; what++) {
                due("tieOf(" + tie + ", " + what + ")", rows[tie][what], x.tieOf(tie, what));
            }
        }
        for (int what = 0; what < 10; what++) {
            int w = what;
            Twins.leavesAll("tieOf(2, " + what + ")", rows[2][what], Twins.MIDWAY, y -> y.tieOf(2, w));
        }
    }

    private static void tieOthers() {
        Check.says("9 what went to POOLS. NONE: others.");
        for (int n : Check.beyond(0, 2)) {
            for (int what : new int[] {0, 5, 9, 10}) {
                Twins.leavesAll("tieOf(" + n + ", " + what + ")", NONE, Twins.MIDWAY, x -> x.tieOf(n, what));
            }
        }
        for (int n : Check.beyond(0, 9)) {
            Twins.leavesAll("tieOf(0, " + n + ")", NONE, Twins.MIDWAY, x -> x.tieOf(0, n));
            Twins.leavesAll("tieOf(2, " + n + ")", NONE, Twins.MIDWAY, x -> x.tieOf(2, n));
        }
        Twins.leavesAll("tieOf(0, 0), no TIES", NONE, Twins.BOOKED, x -> x.tieOf(0, 0));
        // a TIE that was undone is none
        CupPot x = Twins.made(Twins.MIDWAY);
        Twins.undoAll(x, 2);
        due("tieOf(2, 0), undone", NONE, x.tieOf(2, 0));
        due("tieOf(1, 0)", 0, x.tieOf(1, 0));
    }

    private static void gameWithin() {
        Check.says("Of a GAME of a TIE 0 GATE, 1 HOST, 2 EXPENSES of the HOST, 3 of the GUEST, 4 REST, 5 SHARE of the HOST, "
            + "6 of the GUEST, 7 of the POOL, 8 what LACKED, 9 who won it (0 .. 2 as in play()).");
        int[][] at = {{0, 0}, {0, 1}, {1, 0}, {2, 0}};
        int[][] rows = {
            {1000, 0, 10, 5, 985, 487, 400, 98, 105, 2},
            {150, 1, 30, 20, 100, 60, 30, 10, 0, 0},
            {333, 2, 0, 4, 329, 0, 329, 0, 231, 1},
            {21, 3, 4, 17, 0, 0, 0, 0, 0, 2}};
        for (int i = 0; i < 4; i++) {
            for (int what = 0; what < 10; what++) {
                int tie = at[i][0];
                int game = at[i][1];
                int w = what;
                Twins.leavesAll("game(" + tie + ", " + game + ", " + what + ")", rows[i][what], Twins.MIDWAY, x -> x.game(tie, game, w));
            }
        }
    }

    private static void gameOthers() {
        Check.says("9 who won it (0 .. 2 as in play()). NONE: others.");
        for (int n : Check.beyond(0, 2)) {
            Twins.leavesAll("game(" + n + ", 0, 0)", NONE, Twins.MIDWAY, x -> x.game(n, 0, 0));
        }
        for (int n : Check.beyond(0, 1)) {
            Twins.leavesAll("game(0, " + n + ", 0)", NONE, Twins.MIDWAY, x -> x.game(0, n, 0));
        }
        for (int n : Check.beyond(0, 0)) {
            // TIE 2 has one GAME, TIE 0 two
            Twins.leavesAll("game(2, " + n + ", 0)", NONE, Twins.MIDWAY, x -> x.game(2, n, 0));
        }
        for (int n : Check.beyond(0, 9)) {
            Twins.leavesAll("game(0, 1, " + n + ")", NONE, Twins.MIDWAY, x -> x.game(0, 1, n));
        }
        Twins.leavesAll("game(0, 0, 0), no TIES", NONE, Twins.BOOKED, x -> x.game(0, 0, 0));
        Twins.Step noGame = Twins.then(Twins.BOOKED, x -> x.tie(0, 0, 0, 1));
        Twins.leavesAll("game(0, 0, 0), no GAMES", NONE, noGame, x -> x.game(0, 0, 0));
        // a GAME that was undone is none, though another TIE has as many
        CupPot x = Twins.made(Twins.MIDWAY);
        x.undo();
        due("game(2, 0, 0), undone", NONE, x.game(2, 0, 0));
        due("game(1, 0, 0)", 333, x.game(1, 0, 0));
    }

    private static void poolWithin() {
        Check.says("Of a POOL 0 how much is in it (CLOSED: was), 1 of that CARRIED into it, 2 what each got (0: not CLOSED), "
            + "3 how many did, 4 whether it is CLOSED (1, 0), 5 its WAY, 6 TIES of the ROUND.");
        int[] closed = {108, 0, 27, 4, 1, 1, 2};
        int[] open = {0, 0, 0, 0, 0, 3, 1};
        CupPot x = Twins.made(Twins.MIDWAY);
        for (int cup = 0; cup < 2; cup++) {
            for (int round = 0; round < 6; round++) {
                for (int what = 0; what < 7; what++) {
                    int want = round > 0 ? 0 : cup == 0 ? closed[what] : open[what];
                    due("pool(" + cup + ", " + round + ", " + what + ")", want, x.pool(cup, round, what));
                }
            }
        }
        for (int what = 0; what < 7; what++) {
            int w = what;
            Twins.leavesAll("pool(0, 0, " + what + ")", closed[what], Twins.MIDWAY, y -> y.pool(0, 0, w));
        }
    }

    private static void poolOthers() {
        Check.says("6 TIES of the ROUND. NONE: others.");
        for (Twins.Step before : BEFORE) {
            for (int n : Check.beyond(0, 1)) {
                Twins.leavesAll("pool(" + n + ", 0, 0)", NONE, before, x -> x.pool(n, 0, 0));
            }
            for (int n : Check.beyond(0, 5)) {
                Twins.leavesAll("pool(0, " + n + ", 0)", NONE, before, x -> x.pool(0, n, 0));
                Twins.leavesAll("pool(1, " + n + ", 5)", NONE, before, x -> x.pool(1, n, 5));
            }
            for (int n : Check.beyond(0, 6)) {
                Twins.leavesAll("pool(0, 0, " + n + ")", NONE, before, x -> x.pool(0, 0, n));
                Twins.leavesAll("pool(1, 5, " + n + ")", NONE, before, x -> x.pool(1, 5, n));
            }
        }
    }

    private static void allWithin() {
        Check.says("GATES of all GAMES (what 0), EXPENSES (1), SHARES of clubs (2), of POOLS (3), what clubs got of POOLS (4), KEPT (5).");
        int[] want = {1504, 15 + 50 + 4 + 21, 887 + 90 + 329, 108, 108, 0};
        for (int what = 0; what < 6; what++) {
            int w = what;
            Twins.leavesAll("all(" + what + ")", want[what], Twins.MIDWAY, x -> x.all(w));
            Twins.leavesAll("all(" + what + ") of nothing", 0, Twins.BOOKED, x -> x.all(w));
        }
    }

    private static void allOthers() {
        Check.says("KEPT (5). NONE: others, no BOOK.");
        for (int n : Check.beyond(0, 5)) {
            for (Twins.Step before : BEFORE) {
                Twins.leavesAll("all(" + n + ")", NONE, before, x -> x.all(n));
            }
            Twins.leavesAll("all(" + n + "), no BOOK", NONE, Twins.TOLD, x -> x.all(n));
        }
        for (int what = 0; what < 6; what++) {
            int w = what;
            Twins.leavesAll("all(" + what + "), no BOOK", NONE, Twins.FAULTY, x -> x.all(w));
        }
    }

    /** The greatest sums there can be: 30 TIES of four GAMES of 99999 each. */
    private static void greatestSums() {
        Check.says("GATE 0 .. 99999");
        CupPot x = Check.withBook("club 0 0 0;".repeat(12) + "cup 0 0 100 replays 3;".repeat(3) + "cup 0 0 100 replays 3");
        for (int i = 0; i < 24; i++) {
            x.tie(i / 6, 0, i % 6, 11 - i % 6);
            fourGames(x, i);
        }
        for (int cup = 0; cup < 2; cup++) {
            due("close()", 6 * 4 * 99999 / 6, x.close(cup, 0));
            for (int i = 0; i < 3; i++) {
                int tie = x.tie(cup, 1, i, 5 - i);
                fourGames(x, tie);
            }
        }
        due("TIES", 30, x.count(2));
        due("GAMES", 120, x.count(3));
        due("all(0)", 120 * 99999, x.all(0));
        due("all(3)", 120 * 99999, x.all(3));
        due("all(4)", 12 * 4 * 99999, x.all(4));
        due("THE POT", (120 - 48) * 99999, x.balance(12));
        due("club 0: 4 POOLS of which 2 are CLOSED", 2 * 4 * 99999, x.club(0, 7));
        // 4 TIES and 2 more, two GAMES at home in each
        due("club 0", (2 * 4 - 6 * 2) * 99999, x.balance(0));
        due("GATES of CUP 0", (24 + 12) * 99999, x.cup(0, 12));
        due("GAMES of club 0", 24, x.club(0, 10));
    }

    private static void fourGames(CupPot x, int tie) {
        for (int game = 0; game < 4; game++) {
            due("play()", game + 1, x.play(tie, 99999, game < 3 ? 2 : 0));
        }
    }

    private static void countWithin() {
        Check.says("0 CLUBS, 1 CUPS, 2 TIES, 3 GAMES, 4 TIES that are DECIDED, 5 ROUNDS that are CLOSED, 6 what can be undone, 7 signs of THE TAPE.");
        int[] want = {4, 2, 3, 4, 2, 1, 8, 11};
        int[] booked = {4, 2, 0, 0, 0, 0, 0, 11};
        for (int what = 0; what < 8; what++) {
            int w = what;
            Twins.leavesAll("count(" + what + ")", want[what], Twins.MIDWAY, x -> x.count(w));
            Twins.leavesAll("count(" + what + ")", booked[what], Twins.BOOKED, x -> x.count(w));
        }
        CupPot x = Twins.made(Twins.MIDWAY);
        x.play(2, 5, 0);
        x.close(1, 0);
        due("DECIDED", 3, x.count(4));
        due("CLOSED, of both CUPS", 2, x.count(5));
        due("GAMES", 5, x.count(3));
        due("undone", 10, x.count(6));
    }

    private static void countOthers() {
        Check.says("NONE for others");
        for (int n : Check.beyond(0, 7)) {
            for (Twins.Step before : new Twins.Step[] {x -> { }, Twins.TOLD, Twins.BOOKED, Twins.MIDWAY}) {
                Twins.leavesAll("count(" + n + ")", NONE, before, x -> x.count(n));
            }
        }
    }

    private static void countWithoutABook() {
        Check.says("(0 .. 5 without a BOOK: 0)");
        for (int what = 0; what < 7; what++) {
            int w = what;
            for (Twins.Step before : new Twins.Step[] {x -> { }, Twins.TOLD, Twins.FAULTY}) {
                Twins.leavesAll("count(" + what + ")", 0, before, x -> x.count(w));
            }
        }
        Twins.leavesAll("count(7)", Twins.SMALL_BOOK.length(), Twins.TOLD, x -> x.count(7));
        Twins.leavesAll("count(7)", 0, x -> { }, x -> x.count(7));
    }

    /** Each look tells of the latest act, also when it is the first one behind it. */
    private static void eachLookAtOnce() {
        Check.says("the answers and state changes described above");
        Twins.Call[] looks = {x -> x.club(3, 3), x -> x.club(0, 7), x -> x.club(3, 8), x -> x.club(0, 10), x -> x.cup(0, 12), x -> x.cup(1, 13),
            x -> x.tieOf(0, 6), x -> x.game(0, 0, 0), x -> x.pool(0, 0, 0), x -> x.pool(1, 0, 4), x -> x.all(0), x -> x.all(4),
            x -> x.balance(0), x -> x.balance(4), x -> x.fewest(0), x -> x.fewest(1), x -> x.pays(NONE, 0), x -> x.pays(0, 2), x -> x.mark(),
            x -> x.met(3), x -> x.chain(0, 2), x -> x.in(0), x -> x.ranked(0), x -> x.ranked(2), x -> x.bands(), x -> x.brings(0, 500, 0),
            x -> x.least(0, 500, 0), x -> x.byCup(0, 0, 0), x -> x.fairest(0), x -> x.tempt(0, 500, 0), x -> x.ifGate(0, 0, 5), x -> x.count(3)};
        Twins.Step[] acts = {x -> x.tie(0, 1, 0, 3), x -> x.play(2, 3000, 0), x -> x.undo(), x -> Twins.undoAll(x, 3), x -> x.again(0), x -> x.again(1),
            x -> x.deeds(), x -> x.ifGate(0, 0, 3), x -> {
                x.play(2, 3000, 1);
                x.mark();
                x.close(1, 0);
            }};
        for (int act = 0; act < acts.length; act++) {
            for (int look = 0; look < looks.length; look++) {
                CupPot atOnce = Twins.made(Twins.then(Twins.MIDWAY, acts[act]));
                CupPot later = Twins.made(Twins.then(Twins.MIDWAY, acts[act]));
                later.all(0);
                later.mark();
                due("look " + look + " behind act " + act, looks[look].on(later), looks[look].on(atOnce));
            }
        }
    }
}
