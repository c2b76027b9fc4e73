/** When an act can be and when not, and how many can be undone. Promises 7 to 12, Terms 2 and 4. */
public final class ActBoundsTest {
    private static final int NONE = -1;
    private static final int NOT_NOW = -2;
    private static final int LOWEST = Integer.MIN_VALUE;
    private static final int HIGHEST = Integer.MAX_VALUE;
    private static final String FOUR_CUPS = "cup 0 0 100;cup 0 0 100;cup 0 0 100;cup 0 0 100";

    public static void main(String[] args) {
        tieOfNumbersThatCantBe();
        tieOfUnlikeClubs();
        tieOfClubsInNone();
        tieOfARoundThatIsClosed();
        tieOfARoundTooEarly();
        tieOfWinners();
        thirtyTies();
        numberedFromZero();
        playOfNumbersThatCantBe();
        gates();
        decided();
        drawnByReplays();
        hosts();
        howManyGames();
        closeOfNumbersThatCantBe();
        closeWithoutATie();
        closeWhenAllAreDecided();
        closeOnce();
        undoNone();
        undoEachAct();
        latestTwelve();
        theOldestGivesWay();
        undoAndGoOn();
        keepUnderOthers();
        keepIsNoAct();
        againOfNothingKept();
        againIsAnAct();
        againAsKept();
        againOfOtherTies();
        Check.finish("ActBoundsTest");
    }

    private static void due(String call, long want, long got) {
        Check.due(call, want, got);
    }

    private static void refusedTie(Twins.Step before, int want, int cup, int round, int first, int second) {
        String call = "tie(" + cup + ", " + round + ", " + first + ", " + second + ")";
        Twins.leavesAll(call, want, before, x -> x.tie(cup, round, first, second));
    }

    private static void refusedPlay(Twins.Step before, int want, int tie, int gate, int won) {
        Twins.leavesAll("play(" + tie + ", " + gate + ", " + won + ")", want, before, x -> x.play(tie, gate, won));
    }

    private static void refusedClose(Twins.Step before, int want, int cup, int round) {
        Twins.leavesAll("close(" + cup + ", " + round + ")", want, before, x -> x.close(cup, round));
    }

    private static Twins.Step booked(String book) {
        return x -> {
            Check.tell(x, book);
            x.book();
        };
    }

    private static Twins.Step eightClubs() {
        return booked("club 0 0 0;".repeat(8) + "cup 0 0 100;cup 0 0 100");
    }

    /** ROUND 0 of CUP 0 is CLOSED: 0, 2, 4, 6 won. */
    private static Twins.Step fourWinners() {
        return Twins.then(eightClubs(), x -> {
            for (int i = 0; i < 4; i++) {
                x.tie(0, 0, 2 * i, 2 * i + 1);
                x.play(i, 10 + i, 0);
            }
            x.close(0, 0);
        });
    }

    // ---- tie

    private static void tieOfNumbersThatCantBe() {
        Check.says("-1 a number that can't be, none such, no BOOK");
        for (Twins.Step before : new Twins.Step[] {Twins.BOOKED, Twins.MIDWAY}) {
            for (int n : Check.beyond(0, 1)) {
                refusedTie(before, NONE, n, 0, 1, 2);
            }
            for (int n : Check.beyond(0, 5)) {
                refusedTie(before, NONE, 1, n, 1, 2);
            }
            for (int n : Check.beyond(0, 3)) {
                refusedTie(before, NONE, 1, 0, n, 2);
                refusedTie(before, NONE, 1, 0, 1, n);
                // none such, though they are alike, too
                refusedTie(before, NONE, 1, 0, n, n);
            }
            refusedTie(before, NONE, 0, 6, 0, 0);
        }
        due("the greatest numbers", 0, tieOn(1, 0, 3, 2));
        due("the least numbers", 0, tieOn(0, 0, 0, 1));
        due("ROUND 5 is a number that can be", NOT_NOW, tieOn(0, 5, 0, 1));
    }

    private static int tieOn(int cup, int round, int first, int second) {
        CupPot x = Twins.made(Twins.BOOKED);
        return x.tie(cup, round, first, second);
    }

    private static void tieOfUnlikeClubs() {
        Check.says("-2 it can't be (now)");
        refusedTie(Twins.BOOKED, NOT_NOW, 0, 0, 2, 2);
        refusedPlay(Twins.MIDWAY, NOT_NOW, 0, 5, 0);
        refusedClose(Twins.BOOKED, NOT_NOW, 0, 0);
        Check.says("It can be if both are unlike");
        for (int club = 0; club < 4; club++) {
            refusedTie(Twins.BOOKED, NOT_NOW, 0, 0, club, club);
            due("unlike", 0, tieOn(0, 0, club, (club + 1) % 4));
        }
    }

    private static void tieOfClubsInNone() {
        Check.says("in no TIE of that CUP and ROUND");
        Twins.Step before = Twins.then(eightClubs(), x -> x.tie(0, 0, 2, 5));
        int[][] pairs = {{2, 5}, {5, 2}, {2, 0}, {0, 2}, {5, 0}, {0, 5}, {2, 7}, {7, 5}};
        for (int[] pair : pairs) {
            refusedTie(before, NOT_NOW, 0, 0, pair[0], pair[1]);
            CupPot x = Twins.made(before);
            due("of another CUP", 1, x.tie(1, 0, pair[0], pair[1]));
        }
        CupPot x = Twins.made(before);
        due("others", 1, x.tie(0, 0, 1, 4));
        // though it is DECIDED
        x.play(0, 5, 0);
        due("who won", NOT_NOW, x.tie(0, 0, 2, 0));
        due("who lost", NOT_NOW, x.tie(0, 0, 0, 5));
        x = Twins.made(fourWinners());
        due("of another ROUND", 4, x.tie(0, 1, 0, 2));
        due("of that ROUND", NOT_NOW, x.tie(0, 1, 0, 4));
        due("of that ROUND", NOT_NOW, x.tie(0, 1, 4, 2));
        due("others", 5, x.tie(0, 1, 6, 4));
    }

    private static void tieOfARoundThatIsClosed() {
        Check.says("the ROUND is not CLOSED");
        Twins.Step decided = Twins.then(eightClubs(), x -> {
            x.tie(0, 0, 0, 1);
            x.play(0, 5, 1);
        });
        CupPot x = Twins.made(decided);
        due("not CLOSED yet", 1, x.tie(0, 0, 2, 3));
        Twins.Step closed = Twins.then(decided, y -> y.close(0, 0));
        refusedTie(closed, NOT_NOW, 0, 0, 2, 3);
        x = Twins.made(closed);
        due("of another CUP", 1, x.tie(1, 0, 2, 3));
        Twins.Step second = Twins.then(fourWinners(), y -> {
            y.tie(0, 1, 0, 2);
            y.play(4, 5, 0);
            y.close(0, 1);
        });
        refusedTie(second, NOT_NOW, 0, 1, 4, 6);
    }

    private static void tieOfARoundTooEarly() {
        Check.says("but in ROUND 0, the ROUND ahead is CLOSED");
        for (int round = 1; round < 6; round++) {
            refusedTie(Twins.BOOKED, NOT_NOW, 0, round, 0, 1);
        }
        Twins.Step notYet = Twins.then(eightClubs(), x -> {
            x.tie(0, 0, 0, 1);
            x.tie(0, 0, 2, 3);
            x.play(0, 5, 0);
            x.play(1, 5, 0);
        });
        refusedTie(notYet, NOT_NOW, 0, 1, 0, 2);
        Twins.Step closed = Twins.then(notYet, x -> x.close(0, 0));
        CupPot x = Twins.made(closed);
        due("CLOSED", 2, x.tie(0, 1, 0, 2));
        refusedTie(closed, NOT_NOW, 1, 1, 0, 2);
        for (int round = 2; round < 6; round++) {
            refusedTie(closed, NOT_NOW, 0, round, 0, 2);
        }
        // a closing that is undone
        x.undo();
        x.undo();
        due("not CLOSED any more", NOT_NOW, x.tie(0, 1, 0, 2));
    }

    private static void tieOfWinners() {
        Check.says("and both WON a TIE in it");
        Twins.Step before = Twins.then(fourWinners(), x -> {
            // who wins in another CUP is no winner here
            x.tie(1, 0, 1, 3);
            x.play(4, 1, 0);
            x.close(1, 0);
        });
        refusedTie(before, NOT_NOW, 0, 1, 0, 1);
        refusedTie(before, NOT_NOW, 0, 1, 1, 0);
        refusedTie(before, NOT_NOW, 0, 1, 3, 2);
        refusedTie(before, NOT_NOW, 0, 1, 1, 3);
        refusedTie(before, NOT_NOW, 0, 1, 7, 6);
        CupPot x = Twins.made(before);
        due("winners", 5, x.tie(0, 1, 0, 6));
        due("winners", 6, x.tie(0, 1, 4, 2));
        x.play(5, 1, 1);
        x.play(6, 1, 1);
        x.close(0, 1);
        due("who won in ROUND 0 alone", NOT_NOW, x.tie(0, 2, 0, 6));
        due("who won in ROUND 0 alone", NOT_NOW, x.tie(0, 2, 6, 4));
        due("winners of ROUND 1", 7, x.tie(0, 2, 2, 6));
        noneInTheRoundAhead();
        whoWonAGameThatIsNoMore();
    }

    private static void noneInTheRoundAhead() {
        // 4 and 5 were in no TIE of ROUND 0
        Twins.Step before = Twins.then(eightClubs(), x -> {
            x.tie(0, 0, 0, 1);
            x.play(0, 5, 0);
            x.close(0, 0);
        });
        refusedTie(before, NOT_NOW, 0, 1, 4, 5);
        refusedTie(before, NOT_NOW, 0, 1, 0, 4);
        refusedTie(before, NOT_NOW, 0, 1, 4, 0);
    }

    private static void whoWonAGameThatIsNoMore() {
        for (int turn = 0; turn < 2; turn++) {
            CupPot x = Twins.made(eightClubs());
            Check.deeds(x, "tie 0 0 0 1;play 0 5 first");
            x.keep(0);
            due("deeds()", 2, Check.deeds(x, "tie 0 0 2 3;play 1 5 first"));
            if (turn == 0) {
                x.undo();
            } else {
                x.again(0);
            }
            due("close(0, 0)", 5, x.close(0, 0));
            due("tie()", NOT_NOW, x.tie(0, 1, 0, 2));
            due("tie()", NOT_NOW, x.tie(0, 1, 2, 0));
        }
    }

    /** 24 TIES of ROUND 0, of which those of CUPS 0 to 2 are CLOSED, and up to 6 of ROUND 1. */
    private static Twins.Step manyTies(int ties) {
        return Twins.then(booked("club 0 0 0;".repeat(12) + FOUR_CUPS), x -> {
            for (int i = 0; i < 24; i++) {
                due("tie of many", i, x.tie(i / 6, 0, i % 6, 11 - i % 6));
            }
            for (int i = 0; i < 18; i++) {
                x.play(i, 1, 0);
            }
            for (int cup = 0; cup < 3; cup++) {
                x.close(cup, 0);
            }
            for (int i = 24; i < ties; i++) {
                due("tie of many", i, x.tie(i % 2, 1, i / 2 - 12, 17 - i / 2));
            }
        });
    }

    private static void thirtyTies() {
        Check.says("A TIE (30 at most, numbered from 0 on)");
        CupPot x = Twins.made(manyTies(29));
        due("29", 29, x.count(2));
        due("the 30th", 29, x.tie(2, 1, 0, 1));
        due("the 31st", NOT_NOW, x.tie(2, 1, 2, 3));
        due("30", 30, x.count(2));
        x.undo();
        due("the 30th again", 29, x.tie(2, 1, 2, 3));
        Check.says("-1; -2 (there are 30, too).");
        refusedTie(manyTies(30), NOT_NOW, 2, 1, 0, 1);
        // a number that can't be is looked at first
        refusedTie(manyTies(30), NONE, 4, 1, 0, 1);
        x = Twins.made(manyTies(30));
        due("the last can be played", 1, x.play(29, 5, 0));
        due("none such", NONE, x.play(30, 5, 0));
        due("TIE 29", 1, x.tieOf(29, 0));
        due("no TIE 30", NONE, x.tieOf(30, 0));
        due("deeds() of a 31st", 0, Check.deeds(x, "tie 2 1 0 1"));
    }

    private static void numberedFromZero() {
        Check.says("Act: a TIE: its number.");
        CupPot x = Twins.made(eightClubs());
        due("the first", 0, x.tie(1, 0, 6, 7));
        due("the second", 1, x.tie(0, 0, 7, 0));
        x.undo();
        due("the second again", 1, x.tie(0, 0, 3, 4));
        due("FIRST", 3, x.tieOf(1, 2));
        due("SECOND", 4, x.tieOf(1, 3));
    }

    // ---- play

    private static void playOfNumbersThatCantBe() {
        Check.says("-1; -2 (DECIDED, drawn that can't be).");
        for (int n : Check.beyond(0, 2)) {
            refusedPlay(Twins.MIDWAY, NONE, n, 10, 0);
        }
        for (int n : Check.beyond(0, 2)) {
            refusedPlay(Twins.MIDWAY, NONE, 2, 10, n);
        }
        refusedPlay(Twins.BOOKED, NONE, 0, 10, 0);
        // a number that can't be of a TIE that is DECIDED
        refusedPlay(Twins.MIDWAY, NONE, 0, -1, 0);
        refusedPlay(Twins.MIDWAY, NONE, 0, 100000, 0);
        refusedPlay(Twins.MIDWAY, NONE, 0, 10, 3);
        refusedPlay(Twins.MIDWAY, NONE, 0, 10, -1);
    }

    private static void gates() {
        Check.says("GATE 0 .. 99999");
        for (int gate : Check.beyond(0, 99999)) {
            refusedPlay(Twins.MIDWAY, NONE, 2, gate, 0);
        }
        for (int gate : new int[] {0, 1, 99998, 99999}) {
            CupPot x = Twins.made(Twins.MIDWAY);
            due("play(2, " + gate + ", 0)", 2, x.play(2, gate, 0));
            due("GATE", gate, x.game(2, 1, 0));
        }
    }

    private static void decided() {
        Check.says("WON by the FIRST, by the SECOND (it is DECIDED then)");
        for (int won = 0; won < 2; won++) {
            int by = won;
            Twins.Step before = Twins.then(eightClubs(), x -> {
                x.tie(0, 0, 3, 4);
                x.play(0, 10, by);
            });
            for (int next = 0; next < 3; next++) {
                refusedPlay(before, NOT_NOW, 0, 10, next);
            }
            CupPot x = Twins.made(before);
            due("the club that WON", 3 + won, x.tieOf(0, 5));
            due("DECIDED", 1, x.count(4));
        }
        CupPot x = Twins.made(eightClubs());
        x.tie(0, 0, 3, 4);
        due("no GAME: not DECIDED", NOT_NOW, x.tieOf(0, 5));
        x.play(0, 10, 2);
        due("drawn: not DECIDED", NOT_NOW, x.tieOf(0, 5));
        due("DECIDED", 0, x.count(4));
    }

    private static void drawnByReplays() {
        Check.says("drawn (not in GAME number REPLAYS, from 0 on)");
        for (int replays = 0; replays < 4; replays++) {
            int draws = replays;
            Twins.Step before = Twins.then(booked("club 1 2 3;club 4 5 6;cup 10 20 70 replays " + replays), x -> {
                x.tie(0, 0, 0, 1);
                for (int i = 0; i < draws; i++) {
                    due("drawn, GAME " + i + " of REPLAYS " + draws, i + 1, x.play(0, 10 * i, 2));
                }
            });
            refusedPlay(before, NOT_NOW, 0, 50, 2);
            for (int won = 0; won < 2; won++) {
                CupPot x = Twins.made(before);
                due("won, GAME " + replays, replays + 1, x.play(0, 50, won));
                due("none behind it", NOT_NOW, x.play(0, 50, won));
                due("so many GAMES", replays + 1, x.tieOf(0, 4));
            }
        }
        // REPLAYS are those of the TIE's CUP
        CupPot x = Twins.made(booked("club 0 0 0;club 0 0 0;cup 0 0 100 replays 0;cup 0 0 100 replays 3;cup 0 0 100"));
        for (int cup = 0; cup < 3; cup++) {
            x.tie(cup, 0, 0, 1);
        }
        int[] replays = {0, 3, 1};
        for (int cup = 0; cup < 3; cup++) {
            for (int i = 0; i < replays[cup]; i++) {
                due("drawn", i + 1, x.play(cup, 1, 2));
            }
            due("can't be drawn", NOT_NOW, x.play(cup, 1, 2));
        }
    }

    private static void hosts() {
        Check.says("HOST of GAME 0 is the FIRST, of each other one the GUEST of the one ahead");
        CupPot x = Twins.made(booked("club 0 0 0;".repeat(5) + "cup 0 0 100 replays 3"));
        x.tie(0, 0, 4, 2);
        int[] want = {4, 2, 4, 2};
        for (int game = 0; game < 4; game++) {
            x.play(0, 10, game < 3 ? 2 : 1);
            for (int i = 0; i <= game; i++) {
                due("game(0, " + i + ", 1)", want[i], x.game(0, i, 1));
            }
        }
    }

    private static void howManyGames() {
        Check.says("won 0 by the FIRST, 1 by the SECOND, 2 drawn: how many GAMES the TIE has then.");
        CupPot x = Twins.made(Twins.MIDWAY);
        due("TIE 2 had 1", 2, x.play(2, 7, 0));
        due("who won it", 0, x.game(2, 1, 9));
        x.undo();
        due("TIE 2 had 1", 2, x.play(2, 7, 1));
        due("who won it", 1, x.game(2, 1, 9));
        due("who drew", 2, x.game(2, 0, 9));
    }

    // ---- close

    private static void closeOfNumbersThatCantBe() {
        Check.says("Act: a ROUND is CLOSED: how much each gets. -1; -2.");
        for (Twins.Step before : new Twins.Step[] {Twins.BOOKED, Twins.MIDWAY}) {
            for (int n : Check.beyond(0, 1)) {
                refusedClose(before, NONE, n, 0);
            }
            for (int n : Check.beyond(0, 5)) {
                refusedClose(before, NONE, 0, n);
            }
        }
    }

    private static void closeWithoutATie() {
        Check.says("A ROUND can be CLOSED, if it has a TIE");
        for (int round = 0; round < 6; round++) {
            refusedClose(Twins.BOOKED, NOT_NOW, 0, round);
            refusedClose(Twins.BOOKED, NOT_NOW, 1, round);
            if (round > 0) {
                // ROUND 0 is CLOSED there
                refusedClose(Twins.MIDWAY, NOT_NOW, 0, round);
            }
        }
    }

    private static void closeWhenAllAreDecided() {
        Check.says("all its TIES are DECIDED");
        Twins.Step three = Twins.then(eightClubs(), x -> {
            x.tie(0, 0, 0, 1);
            x.tie(1, 0, 0, 1);
            x.tie(0, 0, 2, 3);
            x.tie(0, 0, 4, 5);
        });
        refusedClose(three, NOT_NOW, 0, 0);
        int[] ties = {0, 2, 3};
        for (int open : ties) {
            Twins.Step but = Twins.then(three, x -> {
                for (int tie : ties) {
                    x.play(tie, 30, tie == open ? 2 : 0);
                }
            });
            refusedClose(but, NOT_NOW, 0, 0);
            CupPot x = Twins.made(but);
            x.play(open, 3, 1);
            due("all are DECIDED; another CUP's is not", (90 + 3) / 3, x.close(0, 0));
            due("another CUP's", NOT_NOW, x.close(1, 0));
        }
    }

    private static void closeOnce() {
        Check.says("and it is not yet");
        refusedClose(Twins.MIDWAY, NOT_NOW, 0, 0);
        refusedClose(fourWinners(), NOT_NOW, 0, 0);
        CupPot x = Twins.made(fourWinners());
        x.undo();
        due("undone, and CLOSED again", (10 + 11 + 12 + 13) / 4, x.close(0, 0));
        due("twice", NOT_NOW, x.close(0, 0));
    }

    // ---- undo

    private static void undoNone() {
        Check.says("-1: no BOOK; -2: there is none.");
        Twins.leavesAll("undo()", NOT_NOW, Twins.BOOKED, x -> x.undo());
        Twins.Step undone = Twins.then(Twins.MIDWAY, x -> Twins.undoAll(x, 8));
        Twins.leavesAll("undo()", NOT_NOW, undone, x -> x.undo());
        Twins.leavesAll("undo()", NONE, Twins.TOLD, x -> x.undo());
    }

    private static void undoEachAct() {
        Check.says("The latest act is undone: how many can be yet.");
        Twins.Call[] acts = {x -> x.tie(0, 1, 0, 3), x -> x.play(2, 55, 1), x -> x.again(0) ? 1 : 0, x -> x.again(1) ? 1 : 0};
        for (int i = 0; i < acts.length; i++) {
            Twins.Call act = acts[i];
            Twins.leavesAll("act " + i + " undone", 8, Twins.MIDWAY, x -> {
                due("it can be", 1, act.on(x) >= 0 ? 1 : 0);
                due("9 acts", 9, x.count(6));
                return x.undo();
            });
        }
        Twins.Step decided = Twins.then(Twins.MIDWAY, x -> x.play(2, 55, 1));
        Twins.leavesAll("close() undone", 9, decided, x -> {
            due("close(1, 0)", 0, x.close(1, 0));
            return x.undo();
        });
    }

    private static void latestTwelve() {
        Check.says("the latest 12 can be undone");
        for (int acts = 0; acts <= 26; acts++) {
            CupPot x = Twins.made(Twins.BOOKED);
            x.keep(0);
            for (int i = 1; i <= acts; i++) {
                x.again(0);
                due("what can be undone of " + i, Math.min(i, 12), x.count(6));
            }
            for (int left = Math.min(acts, 12) - 1; left >= 0; left--) {
                due("undo() of " + acts, left, x.undo());
                due("count(6) of " + acts, left, x.count(6));
            }
            due("one more of " + acts, NOT_NOW, x.undo());
            due("count(6) of " + acts, 0, x.count(6));
        }
    }

    private static void theOldestGivesWay() {
        Check.says("the latest 12 can be undone");
        for (int acts = 12; acts <= 18; acts++) {
            CupPot x = Twins.made(booked("club 0 0 0;".repeat(12) + FOUR_CUPS));
            for (int i = 0; i < acts; i++) {
                x.tie(i / 6, 0, i % 6, 11 - i % 6);
            }
            for (int i = acts - 1; i >= acts - 12; i--) {
                x.undo();
                due("TIES of " + acts, i, x.count(2));
            }
            due("no more of " + acts, NOT_NOW, x.undo());
            due("TIES that stay of " + acts, acts - 12, x.count(2));
        }
    }

    private static void undoAndGoOn() {
        Check.says("the latest 12 can be undone");
        CupPot x = Twins.made(booked("club 0 0 0;".repeat(12) + FOUR_CUPS));
        for (int turn = 0; turn < 3; turn++) {
            for (int i = x.count(2); i < 20; i++) {
                x.tie(i / 6, 0, i % 6, 11 - i % 6);
            }
            due("20 TIES", 20, x.count(2));
            due("12 acts", 12, x.count(6));
            for (int i = 1; i <= 12 - turn; i++) {
                due("undo()", 12 - i, x.undo());
            }
            due("TIES left", 8 + turn, x.count(2));
        }
    }

    // ---- keep, again

    private static int asNumber(boolean b) {
        return b ? 1 : 0;
    }

    private static void keepUnderOthers() {
        Check.says("All TIES, GAMES, what is CLOSED are kept under k (0, 1): true; false: others, no BOOK.");
        for (int k : new int[] {-1, 2, 3, LOWEST, HIGHEST, 256, 1 << 16}) {
            Twins.leavesAll("keep(" + k + ")", 0, Twins.MIDWAY, x -> asNumber(x.keep(k)));
            Twins.leavesAll("keep(" + k + ")", 0, Twins.BOOKED, x -> asNumber(x.keep(k)));
        }
        for (int k = 0; k < 2; k++) {
            int under = k;
            Twins.leavesAll("keep(" + k + ") without a BOOK", 0, Twins.TOLD, x -> asNumber(x.keep(under)));
            CupPot x = Twins.made(Twins.BOOKED);
            due("keep(" + k + ")", 1, asNumber(x.keep(k)));
            due("again(other)", 0, asNumber(x.again(1 - k)));
            due("again(" + k + ")", 1, asNumber(x.again(k)));
        }
    }

    private static void keepIsNoAct() {
        Check.says("Acts (tie, play, close, deeds with one done at least, again)");
        // kept once more as it is kept already: nothing changes
        Twins.Step kept = Twins.then(Twins.MIDWAY, x -> x.keep(1));
        Twins.leavesAll("keep(1)", 1, kept, x -> asNumber(x.keep(1)));
        CupPot x = Twins.made(Twins.MIDWAY);
        due("acts", 8, x.count(6));
        x.keep(0);
        due("as many acts", 8, x.count(6));
        // it is not undone either: GAME 0 of TIE 2 is kept
        x.undo();
        due("GAMES", 0, x.tieOf(2, 4));
        x.again(0);
        due("GAMES kept", 1, x.tieOf(2, 4));
    }

    private static void againOfNothingKept() {
        Check.says("false: others, nothing kept.");
        for (int k : new int[] {-1, 2, 3, LOWEST, HIGHEST, 256, 1 << 16}) {
            Twins.leavesAll("again(" + k + ")", 0, Twins.MIDWAY, x -> asNumber(x.again(k)));
            Twins.leavesAll("again(" + k + ")", 0, Twins.BOOKED, x -> asNumber(x.again(k)));
        }
        for (int k = 0; k < 2; k++) {
            int under = k;
            Twins.leavesAll("again(" + k + "), nothing kept", 0, Twins.BOOKED, x -> asNumber(x.again(under)));
            Twins.leavesAll("again(" + k + "), no BOOK", 0, Twins.TOLD, x -> asNumber(x.again(under)));
            Twins.Step other = Twins.then(Twins.BOOKED, x -> x.keep(1 - under));
            Twins.leavesAll("again(" + k + "), the other kept", 0, other, x -> asNumber(x.again(under)));
        }
    }

    private static void againIsAnAct() {
        Check.says("Act: they are as they were kept: true");
        CupPot x = Twins.made(Twins.BOOKED);
        x.keep(0);
        due("again(0), though nothing changes by it", 1, asNumber(x.again(0)));
        due("an act", 1, x.count(6));
        x.tie(0, 0, 0, 1);
        x.again(0);
        due("no TIES", 0, x.count(2));
        due("undone", 2, x.undo());
        due("a TIE", 1, x.count(2));
        due("undone", 1, x.undo());
        due("no TIES", 0, x.count(2));
    }

    private static void againAsKept() {
        Check.says("Act: they are as they were kept");
        // MIDWAY kept under 1 what stood behind 5 acts
        Twins.Step fresh = x -> {
            Twins.MIDWAY.on(x);
            Twins.undoAll(x, 3);
            x.again(1);
        };
        Twins.Step again = x -> {
            Twins.MIDWAY.on(x);
            Twins.undoAll(x, 3);
            // what is done meanwhile leaves no trace
            x.keep(0);
            x.again(0);
        };
        Twins.Step same = x -> {
            x.keep(0);
            for (int i = 0; i < 12; i++) {
                x.again(1);
            }
        };
        Twins.alike("kept and by undo()", Twins.then(fresh, same), Twins.then(again, same));
        CupPot x = Twins.made(Twins.MIDWAY);
        due("CLOSED", 1, x.count(5));
        x.again(1);
        due("not CLOSED when kept", 0, x.count(5));
        due("TIES when kept", 2, x.count(2));
        due("GAMES when kept", 3, x.count(3));
        due("it can be CLOSED", 1, x.close(0, 0) >= 0 ? 1 : 0);
        x.again(1);
        due("what is kept does not change", 0, x.count(5));
        x.again(0);
        due("TIES when kept first", 1, x.count(2));
        due("GAMES when kept first", 0, x.count(3));
    }

    private static void againOfOtherTies() {
        Check.says("Act: they are as they were kept: true");
        String one = "tie 0 0 0 1;play 0 1000 drawn;play 0 500 first;tie 0 0 2 3;play 1 77 second;close 0 0;tie 0 1 0 3";
        String other = "tie 1 0 3 2;play 0 60 second;tie 1 0 1 0;play 1 2000 drawn;play 1 90 second;tie 0 0 3 1;play 2 400 first";
        // whatever was there meanwhile: the first ones by again(0), the others by again(1), or undone
        Twins.Step first = kept(one, other, x -> x.again(0));
        Twins.Step second = kept(one, other, x -> x.again(1));
        Twins.alike("again(0)", Twins.then(doneAlone(one), fill()), Twins.then(first, fill()));
        Twins.alike("again(1)", Twins.then(doneAlone(other), fill()), Twins.then(second, fill()));
        Twins.alike("again(0), then again(1)", Twins.then(doneAlone(other), fill()),
            Twins.then(kept(one, other, x -> {
                x.again(0);
                x.again(1);
            }), fill()));
        Twins.alike("again(0) undone", Twins.then(doneAlone(other), fill()),
            Twins.then(kept(one, other, x -> {
                x.again(0);
                x.undo();
            }), fill()));
        Twins.alike("DEEDS undone", Twins.then(doneAlone(one), fill()), Twins.then(doneAlone(one), x -> {
            x.keep(1);
            x.again(0);
            Check.deeds(x, other);
            Twins.undoAll(x, 2);
            fill().on(x);
        }));
    }

    /** The one DEEDS are kept under 0 and undone, the others done and kept under 1. */
    private static Twins.Step kept(String one, String other, Twins.Step then) {
        return x -> {
            Check.tell(x, Twins.MIDWAY_BOOK);
            x.book();
            Check.deeds(x, one);
            x.keep(0);
            x.undo();
            Check.deeds(x, other);
            x.keep(1);
            then.on(x);
        };
    }

    private static Twins.Step doneAlone(String text) {
        return x -> {
            Check.tell(x, Twins.MIDWAY_BOOK);
            x.book();
            x.keep(0);
            due("deeds()", 7, Check.deeds(x, text));
        };
    }

    /** Makes all that can be undone or is kept alike, so that what is there counts alone. */
    private static Twins.Step fill() {
        return x -> {
            x.keep(0);
            x.keep(1);
            for (int i = 0; i < 12; i++) {
                x.again(0);
            }
        };
    }
}
