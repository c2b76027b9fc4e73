/** Each promise of the document by answers worked out by hand: ordinary ones, edges, wrong inputs. */
public final class PromiseTest {
    private static final int NONE = -1;
    private static final int NOT_NOW = -2;
    private static final int LOWEST = Integer.MIN_VALUE;
    private static final int HIGHEST = Integer.MAX_VALUE;

    // clubs: 0 (10, 20, 100), 1 (30, 5, 50), 2 (0, 7, 0), 3 (4, 4, 1000); one cup, 60 30 10
    private static final String CLUBS = "club 10 20 100;club 30 5 50;club 0 7 0;club 4 4 1000;";
    private static final String BOOK = CLUBS + "cup 60 30 10";
    // nobody has any expenses
    private static final String POOR = "club 0 0 0;club 0 0 0;club 0 0 0;club 0 0 0;";

    public static void main(String[] args) {
        aNewObject();
        signAndEnd();
        bookWhole();
        bookFaults();
        bookFaultLeavesAll();
        deedsDone();
        deedsFaults();
        fault();
        tie();
        play();
        close();
        undo();
        keepAndAgain();
        club();
        lastRound();
        cup();
        tieOfAndGame();
        expenses();
        shares();
        guarantees();
        pool();
        poolWays();
        all();
        balanceAndPays();
        fewest();
        mark();
        metChainBands();
        inCup();
        ranked();
        bringsAndLeast();
        byCupAndFairest();
        tempt();
        ifGate();
        count();
        Check.finish("PromiseTest");
    }

    private static void due(String call, long want, long got) {
        Check.due(call, want, got);
    }

    private static void due(String call, boolean want, boolean got) {
        Check.due(call, want, got);
    }

    // promise 1, and what each call answers without a BOOK
    private static void aNewObject() {
        CupPot x = new CupPot();
        for (int what = 0; what < 8; what++) {
            due("new: count", 0, x.count(what));
        }
        due("new: fault(0)", 0, x.fault(0));
        due("new: fault(1)", NONE, x.fault(1));
        due("new: tie", NONE, x.tie(0, 0, 0, 1));
        due("new: play", NONE, x.play(0, 0, 0));
        due("new: close", NONE, x.close(0, 0));
        due("new: undo", NONE, x.undo());
        due("new: keep", false, x.keep(0));
        due("new: again", false, x.again(0));
        Check.noSuchClub(x, 0, 0);
        due("new: cup", NONE, x.cup(0, 0));
        due("new: tieOf", NONE, x.tieOf(0, 0));
        due("new: game", NONE, x.game(0, 0, 0));
        due("new: pool", NONE, x.pool(0, 0, 0));
        due("new: all", NONE, x.all(0));
        due("new: balance", LOWEST, x.balance(0));
        due("new: fewest", NONE, x.fewest(0));
        due("new: pays", NONE, x.pays(NONE, 0));
        due("new: mark", 0, x.mark());
        due("new: met", NONE, x.met(0));
        due("new: chain", NONE, x.chain(0, 0));
        due("new: in", NONE, x.in(0));
        due("new: ranked", NONE, x.ranked(0));
        due("new: bands", NONE, x.bands());
        due("new: brings", NONE, x.brings(0, 0, 0));
        due("new: least", NONE, x.least(0, 0, 0));
        due("new: byCup", NONE, x.byCup(0, 0, 0));
        due("new: fairest", NONE, x.fairest(0));
        due("new: tempt", LOWEST, x.tempt(0, 0, 0));
        due("new: ifGate", NONE, x.ifGate(0, 0, 0));
    }

    // promises 2, 3
    private static void signAndEnd() {
        CupPot x = new CupPot();
        due("end(0)", true, x.end(0));
        due("end(1)", false, x.end(1));
        due("end(-1)", false, x.end(-1));
        due("end(lowest)", false, x.end(LOWEST));
        for (int i = 1; i <= 150; i++) {
            due("sign, in all", 4 * i, x.sign(0x20202020));
        }
        due("sign, a 601st", NONE, x.sign(0));
        due("600 signs", 600, x.count(7));
        due("end(600)", true, x.end(600));
        due("end(601)", false, x.end(601));
        due("end(597)", true, x.end(597));
        due("sign behind 597", NONE, x.sign(0));
        due("still 597", 597, x.count(7));
        due("end(596)", true, x.end(596));
        due("sign behind 596", 600, x.sign(-1));
        due("600 signs, no BOOK", NONE, x.book());
        due("the sign 255 can't stand there", 1, x.fault(0));
        due("its place", 596, x.fault(1));
        due("empty then", 0, x.count(7));
        // the highest byte comes first: "cup " read in another order is no word
        due("sign", 4, x.sign('c' << 24 | 'u' << 16 | 'p' << 8 | ' '));
        due("sign", 8, x.sign('1' << 24 | '0' << 16 | '0' << 8 | ' '));
        due("sign", 12, x.sign('0' << 24 | ' ' << 16 | '0' << 8 | 'x'));
        due("end cuts the last", true, x.end(11));
        due("a cup alone", NONE, x.book());
        due("too few", 4, x.fault(0));
        due("at the end", 11, x.fault(1));
    }

    // promise 4: a BOOK without a FAULT
    private static void bookWhole() {
        CupPot x = Check.withBook(BOOK);
        due("clubs", 4, x.count(0));
        due("cups", 1, x.count(1));
        due("tape is empty", 0, x.count(7));
        due("a new tie", 0, x.tie(0, 0, 0, 1));
        due("keep", true, x.keep(1));
        Check.tell(x, "\n cup100 0 00000first 2floor 99999replays 3again 1 2 97neutral 1odd 2;way 0 5 3; way 0 5 2;"
            + "club 9999 9999 99999 ;\nclub 0 0 0;cup 0 0 100 odd 1");
        due("lines, ways too", 6, x.book());
        due("no fault", 0, x.fault(0));
        due("no place", NONE, x.fault(1));
        due("clubs", 2, x.count(0));
        due("cups", 2, x.count(1));
        due("no ties", 0, x.count(2));
        due("nothing to undo", 0, x.count(6));
        due("nothing kept", false, x.again(1));
        int[] told = {100, 0, 0, 2, 99999, 3, 1, 2, 97, 1, 2, 0, 0, 0};
        int[] usual = {0, 0, 100, 0, 0, 1, 0, 0, 100, 6, 1, 0, 0, 0};
        for (int what = 0; what < told.length; what++) {
            due("cup(0, " + what + ")", told[what], x.cup(0, what));
            due("cup(1, " + what + ")", usual[what], x.cup(1, what));
        }
        due("the later way counts", 2, x.pool(0, 5, 5));
        due("another way", 0, x.pool(0, 4, 5));
        due("another cup's way", 0, x.pool(1, 5, 5));
        Check.tell(x, "club 1 2 3;club 4 5 6;cup 50 25 25");
        due("a later book", 3, x.book());
        due("ways are as at first", 0, x.pool(0, 5, 5));
        due("neutral is as usual", 6, x.cup(0, 9));
    }

    // terms 1: each FAULT of a BOOK and its place
    private static void bookFaults() {
        String[] misplaced = {"|", "   |", " |;", "club|", "club 1 2 |;", "|clubs 1 2 3", "|Club 1 2 3",
            "|c lub 1 2 3", "|xlub 1 2 3", "|clubz 1 2 3", "|aclub 1 2 3", "club 1 2 3 |4", "club 1 2 3;|", "club 1 2 3; |;", "club |-1 2 3",
            "club|\t1 2 3", "club 1|,2 3", "club 1 2 |a", "|1 club", "|tie 0 0 0 1",
            "cup 60 60|", "cup 60 60 |x", "cup 60 30 10 floor 1 |first 1", "cup 60 30 10 first 1 |first 1",
            "cup 60 30 10 odd 1 |neutral 2", "cup 60 30 10 neutral 2 |again 1 2 97", "cup 60 30 10 again 1 2|",
            "cup 60 30 10 |club 1 2 3", "cup 60 30 10 |odds 1", "cup 60 30 10 |1", "cup 60 30 10;way 0 0 0 |1",
            "cup 60 30 10;way|", "club 1 2 3 |\u00e9", "club 1 2 3;club 1 2 3;cup 60 30 10;|", "club 1 2 3 |1000000"};
        for (String text : misplaced) {
            Check.bookFault(text, 1);
        }
        String[] numbers = {"club |10000 0 0", "club 9999 |10000 0", "club 0 0 |100000", "club 0 0 |000001",
            "club |123456789012345678901234567890 0 0", "club |0000000 1 1", "cup |101 0 0", "cup 0 |101 0",
            "cup 60 60 |0", "cup 60 30 |11", "cup 60 30 |9", "cup 100 100 |100", "cup 0 0 |101", "cup 60 30 10 first |3",
            "cup 60 30 10 floor |100000", "cup 60 30 10 replays |4", "cup 60 30 10 again |101 0 0",
            "cup 60 30 10 again 50 50 |1", "cup 60 30 10 neutral |0", "cup 60 30 10 neutral |7",
            "cup 60 30 10 odd |3", "way |0 0 0", "cup 60 30 10;way |1 0 0", "cup 60 30 10;way 0 |6 0",
            "cup 60 30 10;way 0 0 |4", "way |0 0 0;cup 60 30 10"};
        for (String text : numbers) {
            Check.bookFault(text, 2);
        }
        String twelve = "club 0 0 0;".repeat(12);
        Check.bookFault(twelve + "|club 0 0 0", 3);
        Check.bookFault(twelve + "|club", 3);
        Check.bookFault("cup 1 1 98;".repeat(4) + " |cup 1 1 98", 3);
        Check.bookFault(twelve + "|clubs", 1);
        Check.bookFault("club 1 2 3|", 4);
        Check.bookFault("club 1 2 3 \n |", 4);
        Check.bookFault("club 1 2 3;club 1 2 3|", 4);
        Check.bookFault("club 1 2 3;cup 60 30 10|", 4);
        Check.bookFault("cup 60 30 10;way 0 0 0|", 4);
        CupPot x = Check.withBook(twelve + "cup 1 1 98;cup 1 1 98;cup 1 1 98;cup 1 1 98");
        due("12 clubs", 12, x.count(0));
        due("4 cups", 4, x.count(1));
    }

    // promise 4: but for THE TAPE all stays
    private static void bookFaultLeavesAll() {
        CupPot x = Check.withBook(BOOK);
        x.tie(0, 0, 0, 1);
        x.keep(0);
        x.play(0, 1000, 0);
        long mark = x.mark();
        Check.tell(x, "club 1 1 1;club 2 2 2;cup 50 50 0;way 0 0 3;oh");
        due("book", NONE, x.book());
        due("tape", 0, x.count(7));
        due("clubs stay", 4, x.count(0));
        due("cost stays", 10, x.club(0, 0));
        due("parts stay", 60, x.cup(0, 0));
        due("way stays", 0, x.pool(0, 0, 5));
        due("ties stay", 1, x.count(2));
        due("mark stays", mark, x.mark());
        due("undo stays", 2, x.count(6));
        due("kept stays", true, x.again(0));
    }

    // promise 5
    private static void deedsDone() {
        CupPot x = Check.withBook(BOOK);
        due("all done", 6, Check.deeds(x, "tie 0 0 0 1;tie 0 0 2 3;play 0 1000 drawn;play 0 500 second;play 1 7first;close 0 0"));
        due("one act", 1, x.count(6));
        due("ties", 2, x.count(2));
        due("games", 3, x.count(3));
        due("won by the second", 1, x.game(0, 1, 9));
        due("drawn", 2, x.game(0, 0, 9));
        due("won by the first", 0, x.game(1, 0, 9));
        due("closed", 1, x.pool(0, 0, 4));
        due("gate", 500, x.game(0, 1, 0));
        due("up to the first that can't be", 1, Check.deeds(x, "tie 0 1 1 2;tie 0 1 1 2;play 2 5 first"));
        due("an act again", 2, x.count(6));
        due("up to the first that is -1", 1, Check.deeds(x, "play 2 5 drawn;play 99999 5 first;play 2 5 first"));
        due("none done", 0, Check.deeds(x, "close 1 0;play 2 5 first"));
        due("none done is no act", 3, x.count(6));
        due("no fault", 0, x.fault(0));
        due("undone together", 2, x.undo());
        due("undone together", 1, x.undo());
        due("undone together", 0, x.undo());
        due("no ties", 0, x.count(2));
        due("nothing closed", 0, x.count(5));
        due("a fault behind", NONE, Check.deeds(x, "tie 0 0 0 1;tie"));
        due("nothing is done then", 0, x.count(2));
        due("tape is empty", 0, x.count(7));
        StringBuilder long66 = new StringBuilder("tie0 0 0 1");
        for (int i = 0; i < 65; i++) {
            long66.append(";close0 0");
        }
        due("595 signs", 595, long66.length());
        due("the longest deeds", 1, Check.deeds(x, long66.toString()));
        due("the longest of the shortest, faulty at the end", NONE, Check.deeds(x, "close0 0;".repeat(66)));
        due("fault", 1, x.fault(0));
        due("place", 594, x.fault(1));
    }

    private static void deedsFaults() {
        String[] misplaced = {"|", "\n |", "|;", "tie 0 0 0|", "tie 0 0 0 1 |2", "tie 0 0 0 1;|", "|ties 0 0 0 1", "|xie 0 0 0 1",
            "tie |a 0 0 0", "play 0 1 |won", "play 0 1|", "play 0 1 |2", "play 0 |first", "play 0 1 |firstly",
            "tie 0 0 0 1;|;", "close 0|", "close 0 0 |0", "|club 1 2 3", "|cup 60 30 10",
            "tie 0 0 0 |-1", "tie 0 0 0 1 |first", "|Tie 0 0 0 1", "tie 0 0 0 1 |0000000"};
        for (String text : misplaced) {
            Check.deedsFault(BOOK, text, 1);
        }
        String[] numbers = {"tie |100000 0 0 1", "tie 0 0 0 |000001", "play 0 |100000 first", "close 0 |123456",
            "tie 0 0 0 1;play 0 |999999 first;oh"};
        for (String text : numbers) {
            Check.deedsFault(BOOK, text, 2);
        }
        CupPot x = new CupPot();
        due("no BOOK", NONE, Check.deeds(x, "tie 0 0 0 1"));
        due("read all the same: no fault", 0, x.fault(0));
        due("no BOOK and a fault", NONE, Check.deeds(x, "tie 0 0 0"));
        due("read all the same: a fault", 1, x.fault(0));
        due("its place", 9, x.fault(1));
    }

    // promise 6
    private static void fault() {
        CupPot x = new CupPot();
        Check.tell(x, "oh");
        due("ahead of any", 0, x.fault(0));
        x.book();
        due("of the book", 1, x.fault(0));
        due("place", 0, x.fault(1));
        for (int what : new int[] {-1, 2, LOWEST, HIGHEST}) {
            due("another what", NONE, x.fault(what));
        }
        Check.tell(x, BOOK);
        due("stays until the next book", 1, x.fault(0));
        x.book();
        due("no fault", 0, x.fault(0));
        due("no place", NONE, x.fault(1));
        Check.deeds(x, "close 0 1234567");
        due("of the deeds", 2, x.fault(0));
        due("its place", 8, x.fault(1));
        Check.deeds(x, "close 0 1");
        due("deeds that can't be done have no fault", 0, x.fault(0));
    }

    // promise 7
    private static void tie() {
        CupPot x = Check.withBook(CLUBS + "cup 60 30 10;cup 1 1 98");
        int[][] bad = {{-1, 0, 0, 1}, {2, 0, 0, 1}, {0, -1, 0, 1}, {0, 6, 0, 1}, {0, 0, -1, 1}, {0, 0, 4, 1},
            {0, 0, 0, -1}, {0, 0, 0, 4}, {LOWEST, 0, 0, 1}, {0, HIGHEST, 0, 1}, {0, 0, 4, 4}, {0, 6, 0, 0}};
        for (int[] b : bad) {
            due("tie, a number that can't be", NONE, x.tie(b[0], b[1], b[2], b[3]));
        }
        due("unlike", NOT_NOW, x.tie(0, 0, 1, 1));
        due("round 1 too early", NOT_NOW, x.tie(0, 1, 0, 1));
        due("no act", 0, x.count(6));
        due("first tie", 0, x.tie(0, 0, 0, 1));
        due("in a tie of that round, as first", NOT_NOW, x.tie(0, 0, 0, 2));
        due("in a tie of that round, as second", NOT_NOW, x.tie(0, 0, 2, 0));
        due("in a tie of that round, the other", NOT_NOW, x.tie(0, 0, 2, 1));
        due("another cup", 1, x.tie(1, 0, 1, 0));
        due("second tie of the round", 2, x.tie(0, 0, 3, 2));
        x.play(0, 10, 1);
        x.play(2, 10, 0);
        due("not closed yet", NOT_NOW, x.tie(0, 1, 1, 3));
        x.close(0, 0);
        due("closed", NOT_NOW, x.tie(0, 0, 0, 2));
        due("lost", NOT_NOW, x.tie(0, 1, 0, 3));
        due("lost, as second", NOT_NOW, x.tie(0, 1, 3, 2));
        due("a round too far", NOT_NOW, x.tie(0, 2, 1, 3));
        due("another cup's round is not closed", NOT_NOW, x.tie(1, 1, 1, 3));
        due("winners", 3, x.tie(0, 1, 1, 3));
        x = Check.withBook("club 0 0 0;".repeat(12) + "cup 0 0 100;".repeat(3) + "cup 0 0 100");
        for (int i = 0; i < 24; i++) {
            due("tie of many", i, x.tie(i / 6, 0, i % 6, 11 - i % 6));
        }
        Check.deeds(x, "play 0 1 first;play 1 1 first;play 2 1 first;play 3 1 first;play 4 1 first;play 5 1 first;close 0 0");
        Check.deeds(x, "play 6 1 first;play 7 1 first;play 8 1 first;play 9 1 first;play 10 1 first;play 11 1 first;close 1 0");
        for (int i = 0; i < 6; i++) {
            due("tie of many", 24 + i, x.tie(i / 3, 1, i % 3, 5 - i % 3));
        }
        Check.deeds(x, "play 24 1 first;play 25 1 first;close 0 1");
        Check.deeds(x, "play 12 1 first;play 13 1 first;play 14 1 first;play 15 1 first;play 16 1 first;play 17 1 first;close 2 0");
        due("there are 30", NOT_NOW, x.tie(2, 1, 0, 1));
        due("there are 30, and a bad number", NONE, x.tie(2, 1, 0, 12));
        due("30", 30, x.count(2));
    }

    // promise 8
    private static void play() {
        CupPot x = Check.withBook(CLUBS + "cup 60 30 10;cup 60 30 10 replays 0;cup 60 30 10 replays 3");
        x.tie(0, 0, 0, 1);
        x.tie(1, 0, 0, 1);
        x.tie(2, 0, 0, 1);
        int[][] bad = {{-1, 0, 0}, {3, 0, 0}, {0, -1, 0}, {0, 100000, 0}, {0, 0, -1}, {0, 0, 3}, {HIGHEST, 0, 0}, {0, LOWEST, 0}};
        for (int[] b : bad) {
            due("play, a number that can't be", NONE, x.play(b[0], b[1], b[2]));
        }
        due("no act", 3, x.count(6));
        due("drawn", 1, x.play(0, 99999, 2));
        due("a replay can't be drawn", NOT_NOW, x.play(0, 0, 2));
        due("a replay", 2, x.play(0, 0, 1));
        due("decided", NOT_NOW, x.play(0, 0, 1));
        due("decided, and a bad number", NONE, x.play(0, 0, 3));
        due("no replays", NOT_NOW, x.play(1, 0, 2));
        due("won", 1, x.play(1, 0, 0));
        for (int i = 1; i <= 3; i++) {
            due("three replays", i, x.play(2, 10 * i, 2));
        }
        due("the last can't be drawn", NOT_NOW, x.play(2, 40, 2));
        due("the last", 4, x.play(2, 40, 0));
        int[] hosts = {0, 1, 0, 1};
        for (int i = 0; i < 4; i++) {
            due("hosts take turns", hosts[i], x.game(2, i, 1));
            due("gates", 10 * (i + 1), x.game(2, i, 0));
        }
    }

    // promise 9
    private static void close() {
        CupPot x = Check.withBook(POOR + "cup 0 0 100");
        int[][] bad = {{-1, 0}, {1, 0}, {0, -1}, {0, 6}, {HIGHEST, 0}, {0, LOWEST}};
        for (int[] b : bad) {
            due("close, a number that can't be", NONE, x.close(b[0], b[1]));
        }
        due("no tie", NOT_NOW, x.close(0, 0));
        x.tie(0, 0, 0, 1);
        due("not decided", NOT_NOW, x.close(0, 0));
        x.tie(0, 0, 2, 3);
        x.play(0, 21, 0);
        due("one is not decided", NOT_NOW, x.close(0, 0));
        x.play(1, 10, 1);
        due("no act", 4, x.count(6));
        due("15 each of 31", 15, x.close(0, 0));
        due("closed already", NOT_NOW, x.close(0, 0));
        due("the round behind has no tie", NOT_NOW, x.close(0, 1));
        due("five acts", 5, x.count(6));
        due("1 is carried", 1, x.pool(0, 1, 1));
    }

    // promise 10
    private static void undo() {
        CupPot x = Check.withBook(BOOK);
        due("none", NOT_NOW, x.undo());
        x.tie(0, 0, 0, 1);
        x.play(0, 1000, 2);
        x.play(0, 100, 0);
        x.close(0, 0);
        due("closed", 1, x.count(5));
        due("close is undone", 3, x.undo());
        due("not closed", 0, x.count(5));
        due("play is undone", 2, x.undo());
        due("not decided", NOT_NOW, x.tieOf(0, 5));
        due("play is undone", 1, x.undo());
        due("no games", 0, x.tieOf(0, 4));
        due("has nothing", 0, x.club(0, 3));
        due("tie is undone", 0, x.undo());
        due("no ties", 0, x.count(2));
        due("none is left", NOT_NOW, x.undo());
        x = Check.withBook(BOOK);
        x.keep(0);
        for (int i = 1; i <= 20; i++) {
            due("again is an act", true, x.again(0));
            due("12 at most", Math.min(i, 12), x.count(6));
        }
        x.tie(0, 0, 0, 1);
        x.play(0, 5, 0);
        for (int i = 11; i >= 0; i--) {
            due("12 can be undone", i, x.undo());
        }
        due("the 13th can't", NOT_NOW, x.undo());
    }

    // promises 11, 12
    private static void keepAndAgain() {
        CupPot x = Check.withBook(BOOK);
        for (int k : new int[] {-1, 2, LOWEST, HIGHEST}) {
            due("keep others", false, x.keep(k));
            due("again others", false, x.again(k));
        }
        due("nothing kept", false, x.again(0));
        x.tie(0, 0, 0, 1);
        x.play(0, 1000, 0);
        due("keep(0)", true, x.keep(0));
        due("keep is no act", 2, x.count(6));
        due("nothing under 1", false, x.again(1));
        x.close(0, 0);
        due("keep(1)", true, x.keep(1));
        x.undo();
        x.undo();
        x.undo();
        due("kept stays though undone", true, x.again(1));
        due("closed as kept", 1, x.pool(0, 0, 4));
        due("an act", 1, x.count(6));
        due("again(0)", true, x.again(0));
        due("not closed as kept", 0, x.pool(0, 0, 4));
        due("game as kept", 592, x.game(0, 0, 5));
        x.close(0, 0);
        due("again(0) twice", true, x.again(0));
        due("what was kept did not change", 0, x.pool(0, 0, 4));
        due("undo again", 3, x.undo());
        due("closed", 1, x.pool(0, 0, 4));
        due("keep over", true, x.keep(0));
        x.undo();
        x.again(0);
        due("the later one", 1, x.pool(0, 0, 4));
    }

    // promise 13
    private static void club() {
        CupPot x = Check.withBook(BOOK);
        // rest 985: 591, 295, 98 and 1 to the host; rest 150 - 30 - 20 = 100: 60, 30, 10
        Check.deeds(x, "tie 0 0 0 1;play 0 1000 drawn;play 0 150 first;tie 0 0 2 3;play 1 4 second;close 0 0");
        // club 0: 10 + 592 as host, 20 + 30 as guest, half of 108
        int[] club0 = {10, 20, 100, 706, 30, 592, 30, 54, 0, 0, 2, 1};
        int[] club1 = {30, 5, 50, 390, 35, 60, 295, 0, 0, 0, 2, 0};
        // nothing is due to host 2; all 4 of the gate is the guest's fare
        int[] club2 = {0, 7, 0, 0, 0, 0, 0, 0, 0, 0, 1, 0};
        int[] club3 = {4, 4, 1000, 58, 4, 0, 0, 54, 942, 0, 1, 1};
        int[][] rows = {club0, club1, club2, club3};
        for (int club = 0; club < 4; club++) {
            for (int what = 0; what < 12; what++) {
                due("club(" + club + ", " + what + ")", rows[club][what], x.club(club, what));
            }
        }
        int[][] bad = {{-1, 0}, {4, 0}, {0, -1}, {0, 12}, {LOWEST, 0}, {0, HIGHEST}, {HIGHEST, LOWEST}};
        for (int[] b : bad) {
            Check.noSuchClub(x, b[0], b[1]);
        }
    }

    // 12 clubs make 6 winners at most, these 3, these 1: no tie of a round from 3 on can be, so no
    // call ever reaches ROUND 5, and nothing is KEPT (KeptTest puts a season there by other means)
    private static void lastRound() {
        CupPot x = Check.withBook("club 0 0 90;".repeat(12) + "cup 0 0 100;way 0 2 3");
        for (int i = 0; i < 6; i++) {
            x.tie(0, 0, i, 11 - i);
            x.play(i, 10, 0);
        }
        due("round 0", 10, x.close(0, 0));
        for (int i = 0; i < 3; i++) {
            due("round 1", 6 + i, x.tie(0, 1, 2 * i, 2 * i + 1));
            x.play(6 + i, 1, 0);
        }
        due("round 1", 1, x.close(0, 1));
        due("round 2", 9, x.tie(0, 2, 0, 2));
        x.play(9, 5, 0);
        due("round 2", 0, x.close(0, 2));
        due("carried", 5, x.pool(0, 3, 1));
        due("the only winner can't go on", NOT_NOW, x.tie(0, 3, 0, 4));
        due("nothing is kept", 0, x.cup(0, 11));
        due("nothing is kept", 0, x.all(5));
        due("nobody is topped up", 0, x.club(0, 9));
        due("though lacking", 79, x.club(0, 8));
    }

    // promise 14
    private static void cup() {
        CupPot x = Check.withBook(CLUBS + "cup 60 30 10;cup 50 20 30 first 1 floor 7 replays 2 again 1 2 97 neutral 3 odd 2");
        int[] cup1 = {50, 20, 30, 1, 7, 2, 1, 2, 97, 3, 2, 0, 0, 0};
        for (int what = 0; what < 14; what++) {
            due("cup(1, " + what + ")", cup1[what], x.cup(1, what));
        }
        Check.deeds(x, "tie 1 0 0 1;tie 1 0 2 3;tie 0 0 0 1;play 0 100 drawn;play 0 30 first;play 2 7 first");
        due("gates", 130, x.cup(1, 12));
        due("ties", 2, x.cup(1, 13));
        due("gates of the other", 7, x.cup(0, 12));
        due("ties of the other", 1, x.cup(0, 13));
        int[][] bad = {{-1, 0}, {2, 0}, {0, -1}, {0, 14}, {HIGHEST, 0}, {0, LOWEST}};
        for (int[] b : bad) {
            due("cup, others", NONE, x.cup(b[0], b[1]));
        }
    }

    // promises 15, 16
    private static void tieOfAndGame() {
        CupPot x = Check.withBook(BOOK);
        Check.deeds(x, "tie 0 0 2 3;tie 0 0 0 1;play 1 1000 drawn");
        due("not decided", NOT_NOW, x.tieOf(1, 5));
        due("no game yet", NOT_NOW, x.tieOf(0, 5));
        x.play(1, 150, 0);
        int[] tie1 = {0, 0, 0, 1, 2, 0, 1150, 652, 390, 108};
        int[] game0 = {1000, 0, 10, 5, 985, 592, 295, 98, 0, 2};
        int[] game1 = {150, 1, 30, 20, 100, 60, 30, 10, 0, 0};
        for (int what = 0; what < 10; what++) {
            due("tieOf(1, " + what + ")", tie1[what], x.tieOf(1, what));
            due("game(1, 0, " + what + ")", game0[what], x.game(1, 0, what));
            due("game(1, 1, " + what + ")", game1[what], x.game(1, 1, what));
        }
        int[][] badTies = {{-1, 0}, {2, 0}, {0, -1}, {0, 10}, {HIGHEST, 0}, {0, LOWEST}};
        for (int[] b : badTies) {
            due("tieOf, others", NONE, x.tieOf(b[0], b[1]));
        }
        int[][] badGames = {{-1, 0, 0}, {2, 0, 0}, {0, 0, 0}, {1, -1, 0}, {1, 2, 0}, {1, 0, -1}, {1, 0, 10},
            {HIGHEST, 0, 0}, {1, HIGHEST, 0}, {1, 0, LOWEST}};
        for (int[] b : badGames) {
            due("game, others", NONE, x.game(b[0], b[1], b[2]));
        }
    }

    private static void game(CupPot x, int gate, int... want) {
        x.tie(0, 0, 0, 1);
        x.play(0, gate, 0);
        for (int i = 0; i < want.length; i++) {
            due("game of " + gate + ", what " + (i + 2), want[i], x.game(0, 0, i + 2));
        }
        x.undo();
        x.undo();
    }

    // terms 2: EXPENSES by FIRST; DUE are 10 and 5
    private static void expenses() {
        String cup = CLUBS + "cup 60 30 10 first ";
        CupPot hostFirst = Check.withBook(cup + "0");
        game(hostFirst, 0, 0, 0, 0, 0, 0, 0, 0);
        game(hostFirst, 9, 9, 0, 0);
        game(hostFirst, 12, 10, 2, 0);
        game(hostFirst, 15, 10, 5, 0);
        game(hostFirst, 16, 10, 5, 1, 1, 0, 0, 0);
        CupPot guestFirst = Check.withBook(cup + "1");
        game(guestFirst, 4, 0, 4, 0);
        game(guestFirst, 12, 7, 5, 0);
        game(guestFirst, 16, 10, 5, 1);
        CupPot byDue = Check.withBook(cup + "2");
        game(byDue, 0, 0, 0, 0);
        game(byDue, 12, 8, 4, 0);
        game(byDue, 13, 9, 4, 0);
        game(byDue, 1, 1, 0, 0);
        game(byDue, 14, 10, 4, 0);
        game(byDue, 15, 10, 5, 0);
        CupPot nothingDue = Check.withBook(POOR + "cup 60 30 10 first 2");
        game(nothingDue, 0, 0, 0, 0, 0, 0, 0, 0);
        game(nothingDue, 7, 0, 0, 7, 5, 2, 0, 0);
        CupPot great = Check.withBook("club 9999 0 0;club 0 9999 0;cup 60 30 10 first 2");
        game(great, 19997, 9999, 9998, 0);
        game(great, 99999, 9999, 9999, 80001, 48001, 24000, 8000, 0);
    }

    // terms 2: SHARES, PARTS of replays, ODD, NEUTRAL
    private static void shares() {
        // 7 by 34 33 33: 2, 2, 2, and 1 is left
        game(Check.withBook(POOR + "cup 34 33 33"), 7, 0, 0, 7, 3, 2, 2, 0);
        game(Check.withBook(POOR + "cup 34 33 33 odd 1"), 7, 0, 0, 7, 2, 3, 2, 0);
        game(Check.withBook(POOR + "cup 34 33 33 odd 2"), 7, 0, 0, 7, 2, 2, 3, 0);
        CupPot x = Check.withBook(POOR + "cup 60 30 10 replays 2 again 20 70 10");
        Check.deeds(x, "tie 0 0 0 1;play 0 100 drawn;play 0 100 drawn;play 0 100 first");
        int[][] want = {{60, 30, 10}, {20, 70, 10}, {20, 70, 10}};
        for (int g = 0; g < 3; g++) {
            for (int i = 0; i < 3; i++) {
                due("shares of replays", want[g][i], x.game(0, g, 5 + i));
            }
        }
        due("the first has", 60 + 70 + 20, x.tieOf(0, 7));
        due("the second has", 30 + 20 + 70, x.tieOf(0, 8));
        // round 1 is neutral: fares of both; of 61 and 30 45 each, and 1 more to the pool
        x = Check.withBook(CLUBS + "cup 61 30 9 floor 1000 again 1 2 97 neutral 1");
        Check.deeds(x, "tie 0 0 0 1;tie 0 0 2 3;play 0 15 first;play 1 15 first;close 0 0;tie 0 1 0 2;play 2 127 drawn;play 2 127 first");
        int[] neutral = {127, 0, 20, 7, 100, 45, 45, 10, 0, 2};
        int[] replay = {127, 2, 7, 20, 100, 1, 1, 98, 0, 0};
        for (int what = 0; what < 10; what++) {
            due("neutral, what " + what, neutral[what], x.game(2, 0, what));
            due("neutral replay, what " + what, replay[what], x.game(2, 1, what));
        }
        due("round 0 is not neutral", 10, x.game(0, 0, 2));
    }

    // terms 2: FLOOR
    private static void guarantees() {
        CupPot x = Check.withBook(POOR + "cup 60 10 30 floor 50");
        game(x, 1000, 0, 0, 1000, 600, 100, 300, 0);
        game(x, 500, 0, 0, 500, 300, 50, 150, 0);
        game(x, 100, 0, 0, 100, 20, 50, 30, 40);
        game(x, 60, 0, 0, 60, 0, 50, 10, 44);
        game(x, 51, 0, 0, 51, 0, 50, 1, 45);
        game(x, 50, 0, 0, 50, 0, 50, 0, 45);
        game(x, 49, 0, 0, 49, 0, 49, 0, 45);
        game(x, 0, 0, 0, 0, 0, 0, 0, 0);
        Check.deeds(x, "tie 0 0 0 1;play 0 100 drawn;play 0 100 first");
        due("none in replays", 10, x.game(0, 1, 6));
        due("none lacked in replays", 0, x.game(0, 1, 8));
        // what is left by cutting comes ahead of the floor: 9 by 10 is 0, and 1 left makes it 1
        game(Check.withBook(POOR + "cup 60 10 30 floor 1 odd 1"), 9, 0, 0, 9, 5, 2, 2, 0);
    }

    // promise 17
    private static void pool() {
        CupPot x = Check.withBook(POOR + "cup 0 0 100;cup 0 0 100;way 1 0 3;way 0 1 2");
        Check.deeds(x, "tie 0 0 0 1;tie 0 0 2 3;play 0 21 first");
        row(x, 0, 0, 21, 0, 0, 0, 0, 0, 2);
        Check.deeds(x, "play 1 10 second;close 0 0");
        row(x, 0, 0, 31, 0, 15, 2, 1, 0, 2);
        row(x, 0, 1, 1, 1, 0, 0, 0, 2, 0);
        row(x, 0, 2, 0, 0, 0, 0, 0, 0, 0);
        row(x, 1, 0, 0, 0, 0, 0, 0, 3, 0);
        Check.deeds(x, "tie 0 1 0 3;play 2 6 second;close 0 1");
        row(x, 0, 1, 7, 1, 7, 1, 1, 2, 1);
        due("the loser got it", 22, x.club(0, 7));
        due("the winner did not", 15, x.club(3, 7));
        int[][] bad = {{-1, 0, 0}, {2, 0, 0}, {0, -1, 0}, {0, 6, 0}, {0, 0, -1}, {0, 0, 7}, {HIGHEST, 0, 0}, {0, 0, LOWEST}};
        for (int[] b : bad) {
            due("pool, others", NONE, x.pool(b[0], b[1], b[2]));
        }
    }

    private static void row(CupPot x, int cup, int round, int... want) {
        for (int what = 0; what < 7; what++) {
            due("pool(" + cup + ", " + round + ", " + what + ")", want[what], x.pool(cup, round, what));
        }
    }

    // terms 2: each WAY
    private static void poolWays() {
        int[][] got = {{15, 0, 0, 15}, {7, 7, 7, 7}, {0, 15, 15, 0}, {0, 0, 0, 0}};
        int[] takers = {2, 4, 2, 0};
        int[] each = {15, 7, 15, 0};
        int[] carried = {1, 3, 1, 31};
        for (int way = 0; way < 4; way++) {
            CupPot x = Check.withBook(POOR + "cup 0 0 100;way 0 0 " + way);
            Check.deeds(x, "tie 0 0 0 1;tie 0 0 2 3;play 0 21 first;play 1 10 second");
            due("close, way " + way, each[way], x.close(0, 0));
            for (int club = 0; club < 4; club++) {
                due("way " + way + ", club " + club, got[way][club], x.club(club, 7));
            }
            due("how many, way " + way, takers[way], x.pool(0, 0, 3));
            due("carried, way " + way, carried[way], x.pool(0, 1, 1));
            due("the pot, way " + way, carried[way], x.balance(4));
        }
    }

    // promise 18
    private static void all() {
        CupPot x = Check.withBook(BOOK);
        Check.deeds(x, "tie 0 0 0 1;play 0 1000 drawn;play 0 150 first");
        int[] open = {1150, 65, 592 + 295 + 60 + 30, 108, 0, 0};
        for (int what = 0; what < 6; what++) {
            due("all(" + what + ")", open[what], x.all(what));
        }
        x.close(0, 0);
        due("got", 108, x.all(4));
        due("of pools", 108, x.all(3));
        for (int what : new int[] {-1, 6, LOWEST, HIGHEST}) {
            due("all, others", NONE, x.all(what));
        }
    }

    // promises 19, 21
    private static void balanceAndPays() {
        CupPot x = Check.withBook(BOOK);
        due("even: no payment", 0, x.pays(NONE, 0));
        due("even: not so many", NOT_NOW, x.pays(0, 0));
        // 592 + 10 less 1000 | 295 + 5 | 98
        Check.deeds(x, "tie 0 0 0 1;play 0 1000 drawn");
        int[] first = {-398, 300, 0, 0, 98};
        for (int who = 0; who < 5; who++) {
            due("balance", first[who], x.balance(who));
        }
        // 2 holds 400, of which 3 has 4 + 118 and the pot 39: 4 less 396: 237, 118, 39, 2 left
        Check.deeds(x, "tie 0 0 2 3;play 1 400 first");
        int[] second = {-398, 300, -161, 122, 137};
        for (int who = 0; who < 5; who++) {
            due("balance", second[who], x.balance(who));
        }
        // -398 300 -161 122 137 -> -98 0 -161 122 137 -> -98 0 -24 122 0 -> 0 0 -24 24 0
        int[][] pays = {{0, 1, 300}, {2, 4, 137}, {0, 3, 98}, {2, 3, 24}};
        due("how many", 4, x.pays(NONE, 2));
        for (int i = 0; i < 4; i++) {
            for (int what = 0; what < 3; what++) {
                due("pays(" + i + ", " + what + ")", pays[i][what], x.pays(i, what));
            }
        }
        due("not so many", NOT_NOW, x.pays(4, 0));
        due("not so many", NOT_NOW, x.pays(HIGHEST, 2));
        due("others", NONE, x.pays(-2, 0));
        due("others", NONE, x.pays(LOWEST, 0));
        due("others", NONE, x.pays(0, 3));
        due("others", NONE, x.pays(0, -1));
        due("what is looked at", NONE, x.pays(NONE, 3));
        due("what is looked at", NONE, x.pays(NONE, -1));
        due("what is looked at first", NONE, x.pays(100, 3));
        for (int who : new int[] {-1, 5, LOWEST, HIGHEST}) {
            due("balance of none such", LOWEST, x.balance(who));
        }
        likeOnes();
    }

    // of like ones the least: 0 and 2 lack 50 each, 1 and 3 have 50 each
    private static void likeOnes() {
        CupPot x = Check.withBook(POOR + "cup 50 50 0");
        Check.deeds(x, "tie 0 0 0 1;play 0 100 first;tie 0 0 2 3;play 1 100 first");
        int[][] pays = {{0, 1, 50}, {2, 3, 50}};
        for (int i = 0; i < 2; i++) {
            for (int what = 0; what < 3; what++) {
                due("like ones: pays(" + i + ", " + what + ")", pays[i][what], x.pays(i, what));
            }
        }
        due("two payments", 2, x.pays(NONE, 0));
        due("two groups", 2, x.fewest(1));
        due("two are fewest", 2, x.fewest(0));
    }

    // promise 20
    private static void fewest() {
        CupPot x = Check.withBook(POOR + "cup 0 60 40;cup 0 100 0;way 0 0 3");
        due("even", 0, x.fewest(0));
        due("even: no groups", 0, x.fewest(1));
        // 0: -100, 1: 60, pot 40
        Check.deeds(x, "tie 0 0 0 1;play 0 100 first");
        due("three in one group", 2, x.fewest(0));
        due("one group", 1, x.fewest(1));
        // 2: -40, 3: 40; then 0 with 1 and the pot, 2 with 3
        Check.deeds(x, "tie 1 0 2 3;play 1 40 first");
        due("five in two groups", 3, x.fewest(0));
        due("two groups", 2, x.fewest(1));
        // the greatest first: 0 pays 60, then 2 and 0 pay 40 and 40
        due("pays as many here", 3, x.pays(NONE, 0));
        for (int what : new int[] {-1, 2, LOWEST, HIGHEST}) {
            due("fewest, others", NONE, x.fewest(what));
        }
        x = Check.withBook("club 0 0 0;".repeat(6) + "cup 0 100 0;cup 0 100 0;cup 0 100 0");
        Check.deeds(x, "tie 0 0 0 3;play 0 6 first;tie 1 0 1 4;play 1 3 first;tie 2 0 2 4;play 2 4 first");
        Check.deeds(x, "tie 0 0 1 5;play 3 2 first;tie 1 0 3 5;play 4 1 first");
        int[] balances = {-6, -5, -4, 5, 7, 3, 0};
        for (int who = 0; who < 7; who++) {
            due("balance " + who, balances[who], x.balance(who));
        }
        // {-5 5} {-4 -6 7 3}
        due("two groups", 2, x.fewest(1));
        due("four payments", 4, x.fewest(0));
        // -6 to 7: -5 5 -4 1 3; -5 to 5; -4 to 3; -1 to 1
        due("the greatest first", 4, x.pays(NONE, 0));
    }

    // promise 22
    private static void mark() {
        CupPot x = Check.withBook("club 0 0 0;club 0 0 0;cup 100 0 0");
        // balances are all 0: 17 * 31 = 527; 16337 ^ 1 = 16336; 506416 ^ 61 = 506381
        due("mark", 506381, x.mark());
        Check.tell(x, "club 0 0 0;club 0 0 0;cup 0 100 0");
        x.book();
        Check.deeds(x, "tie 0 0 0 1;play 0 600 first");
        // 527 - 600 = -73: all bits above turn: -73 ^ (-73 >>> 13)
        long h = -73L ^ -73L >>> 13;
        h = h * 31 + 600;
        h = h ^ h >>> 13;
        h = h * 31;
        h = h ^ h >>> 13;
        due("mark below 0", h, x.mark());
    }

    // promises 23, 24, 27
    private static void metChainBands() {
        CupPot x = Check.withBook("club 0 0 0;".repeat(6) + "cup 0 0 100;cup 0 0 100");
        due("met nobody", 0, x.met(0));
        due("each by itself", 6, x.bands());
        due("to oneself", 0, x.chain(5, 5));
        due("none", NOT_NOW, x.chain(0, 5));
        Check.deeds(x, "tie 0 0 0 1;tie 0 0 2 3;tie 1 0 1 2;tie 1 0 3 4");
        due("met", 0b000010, x.met(0));
        due("met", 0b000101, x.met(1));
        due("met", 0b001010, x.met(2));
        due("met nobody", 0, x.met(5));
        due("one step", 1, x.chain(1, 0));
        due("four steps", 4, x.chain(0, 4));
        due("four steps back", 4, x.chain(4, 0));
        due("none", NOT_NOW, x.chain(4, 5));
        due("two groups", 2, x.bands());
        for (int c : new int[] {-1, 6, LOWEST, HIGHEST, 32}) {
            due("met: none such", NONE, x.met(c));
            due("chain: none such", NONE, x.chain(c, 0));
            due("chain: none such", NONE, x.chain(0, c));
            due("chain: none such to itself", NONE, x.chain(c, c));
        }
        x.undo();
        due("undone", 6, x.bands());
        x = Check.withBook("club 0 0 0;".repeat(12) + "cup 0 0 100;cup 0 0 100");
        for (int i = 0; i < 11; i++) {
            x.tie(i % 2, 0, i, i + 1);
        }
        due("the longest chain", 11, x.chain(0, 11));
        due("one group", 1, x.bands());
    }

    // promise 25
    private static void inCup() {
        CupPot x = Check.withBook(POOR + "cup 0 0 100;cup 0 0 100");
        due("nobody", 0, x.in(0));
        Check.deeds(x, "tie 0 0 0 1;tie 0 0 2 3;tie 1 0 1 2");
        due("all", 0b1111, x.in(0));
        due("two", 0b0110, x.in(1));
        Check.deeds(x, "play 0 1 drawn;play 1 1 second");
        due("2 is out", 0b1011, x.in(0));
        Check.deeds(x, "play 0 1 second;close 0 0;tie 0 1 1 3;play 3 1 first");
        due("1 is left", 0b0010, x.in(0));
        due("the other cup", 0b0110, x.in(1));
        for (int c : new int[] {-1, 2, LOWEST, HIGHEST}) {
            due("in: none such", NONE, x.in(c));
        }
    }

    // promise 26
    private static void ranked() {
        CupPot x = Check.withBook(POOR + "cup 50 50 0");
        for (int i = 0; i < 4; i++) {
            due("like ones", i, x.ranked(i));
        }
        Check.deeds(x, "tie 0 0 2 3;play 0 100 first;tie 0 0 1 0;play 1 10 first");
        int[] order = {2, 3, 0, 1};
        for (int i = 0; i < 4; i++) {
            due("ranked(" + i + ")", order[i], x.ranked(i));
        }
        for (int i : new int[] {-1, 4, LOWEST, HIGHEST}) {
            due("ranked: none such", NONE, x.ranked(i));
        }
    }

    // promises 28, 29
    private static void bringsAndLeast() {
        CupPot x = Check.withBook(BOOK + " floor 400");
        x.tie(0, 0, 0, 1);
        // game 0 has the floor: 985 of rest, 295 less than 400
        due("first", 10 + 487, x.brings(0, 1000, 0));
        due("second", 5 + 400, x.brings(0, 1000, 1));
        due("pool", 98, x.brings(0, 1000, 2));
        x.play(0, 1000, 2);
        due("a replay, hosted by the second", 20 + 30, x.brings(0, 150, 0));
        due("a replay, hosted by the second", 30 + 60, x.brings(0, 150, 1));
        due("pool", 10, x.brings(0, 150, 2));
        x.play(0, 150, 0);
        due("decided or not", 10 + 60, x.brings(0, 115, 0));
        due("nothing", 0, x.brings(0, 0, 0));
        int[][] bad = {{-1, 0, 0}, {1, 0, 0}, {0, -1, 0}, {0, 100000, 0}, {0, 0, -1}, {0, 0, 3}, {HIGHEST, 0, 0}, {0, 0, LOWEST}};
        for (int[] b : bad) {
            due("brings, others", NONE, x.brings(b[0], b[1], b[2]));
        }
        due("least 0", 0, x.least(0, 0, 0));
        due("least of the cost", 10, x.least(0, 10, 0));
        due("least of the fare", 15, x.least(0, 5, 1));
        // a rest of 98: 58, 29, 9, and 2 left to the host, who has 60 sooner than of 100
        due("least of the share", 113, x.least(0, 70, 0));
        due("the pool's first", 25, x.least(0, 1, 2));
        due("none", NOT_NOW, x.least(0, 99999, 0));
        due("none", NOT_NOW, x.least(0, HIGHEST, 2));
        int[][] badLeast = {{-1, 0, 0}, {1, 0, 0}, {0, -1, 0}, {0, LOWEST, 0}, {0, 0, -1}, {0, 0, 3}};
        for (int[] b : badLeast) {
            due("least, others", NONE, x.least(b[0], b[1], b[2]));
        }
        upAndDown();
    }

    // what is left by cutting: a greater gate brings the host less at times
    private static void upAndDown() {
        CupPot x = Check.withBook(POOR + "cup 0 50 50");
        x.tie(0, 0, 0, 1);
        due("1 is left of 1", 1, x.brings(0, 1, 0));
        due("0 is left of 2", 0, x.brings(0, 2, 0));
        due("least", 1, x.least(0, 1, 0));
        due("never 2", NOT_NOW, x.least(0, 2, 0));
        x = Check.withBook(POOR + "cup 2 49 49");
        x.tie(0, 0, 0, 1);
        for (int what = 0; what < 3; what++) {
            for (int n = 0; n < 60; n++) {
                int gate = 0;
                while (gate <= 99999 && x.brings(0, gate, what) < n) {
                    gate++;
                }
                due("least by trying", gate, x.least(0, n, what));
            }
        }
        x = Check.withBook(POOR + "cup 100 0 0");
        x.tie(0, 0, 0, 1);
        due("the last gate", 99999, x.least(0, 99999, 0));
        due("none", NOT_NOW, x.least(0, 100000, 0));
        // 99 due and 999 whole hundreds leave the last gate alone
        x = Check.withBook("club 99 0 0;club 0 0 0;cup 100 0 0");
        x.tie(0, 0, 0, 1);
        due("the last gate", 99999, x.least(0, 99999, 0));
        due("the last but one", 99998, x.least(0, 99998, 0));
    }

    // promises 30, 31
    private static void byCupAndFairest() {
        CupPot x = Check.withBook(CLUBS + "cup 60 30 10 replays 0;cup 10 80 10;cup 45 45 10 first 1 floor 9 odd 2;cup 45 45 10 neutral 1");
        due("no game: all alike", 0, x.tie(0, 0, 0, 1));
        due("the first of several", 0, x.fairest(0));
        x.play(0, 115, 0);
        // rest 100: 60 30 10 | 10 80 10 | 45 45 10 | 45 45 10
        int[][] want = {{70, 35, 10}, {20, 85, 10}, {55, 50, 10}, {55, 50, 10}};
        for (int cup = 0; cup < 4; cup++) {
            for (int what = 0; what < 3; what++) {
                due("byCup(0, " + cup + ", " + what + ")", want[cup][what], x.byCup(0, cup, what));
            }
        }
        due("apart by 5, the first of several", 2, x.fairest(0));
        due("the tie's own is as it was", 70, x.tieOf(0, 7));
        int[][] bad = {{-1, 0, 0}, {1, 0, 0}, {0, -1, 0}, {0, 4, 0}, {0, 0, -1}, {0, 0, 3}, {HIGHEST, 0, 0}, {0, LOWEST, 0}};
        for (int[] b : bad) {
            due("byCup, others", NONE, x.byCup(b[0], b[1], b[2]));
        }
        for (int t : new int[] {-1, 1, LOWEST, HIGHEST}) {
            due("fairest: none such", NONE, x.fairest(t));
        }
    }

    // promise 32
    private static void tempt() {
        CupPot x = Check.withBook(POOR + "cup 60 40 0 replays 3 again 80 20 0");
        x.tie(0, 0, 0, 1);
        // 101: one game 61 (1 left), 40; two: 50 by 60 40: 30, 20; 51 hosted by the second: 10, 41
        due("the first", 30 + 10 - 61, x.tempt(0, 101, 0));
        due("the second", 20 + 41 - 40, x.tempt(0, 101, 1));
        x.play(0, 0, 2);
        // next is hosted by the second, 80 20: one 81, 20; two: 40, 10; then 41, 10
        due("the first", 10 + 41 - 20, x.tempt(0, 101, 0));
        due("the second", 40 + 10 - 81, x.tempt(0, 101, 1));
        due("of nothing", 0, x.tempt(0, 0, 0));
        int[][] bad = {{-1, 0, 0}, {1, 0, 0}, {0, -1, 0}, {0, 100000, 0}, {0, 0, -1}, {0, 0, 2}, {HIGHEST, 0, 0}, {0, LOWEST, 0}};
        for (int[] b : bad) {
            due("tempt, others", LOWEST, x.tempt(b[0], b[1], b[2]));
        }
    }

    // promise 33
    private static void ifGate() {
        CupPot x = Check.withBook("club 0 0 100;club 0 0 100;cup 50 30 20");
        Check.deeds(x, "tie 0 0 0 1;play 0 100 first");
        due("as it is", 50 + 70, x.ifGate(0, 0, 100));
        due("nothing", 200, x.ifGate(0, 0, 0));
        due("twice", 0 + 40, x.ifGate(0, 0, 200));
        x.close(0, 0);
        long mark = x.mark();
        due("the pool's, too", 30 + 70, x.ifGate(0, 0, 100));
        due("the pool's, too", 0 + 55, x.ifGate(0, 0, 150));
        due("the gate is as it was", 100, x.game(0, 0, 0));
        due("all is as it was", mark, x.mark());
        due("a club has what it had", 70, x.club(0, 3));
        due("no act", 2, x.count(6));
        int[][] bad = {{-1, 0, 0}, {1, 0, 0}, {0, -1, 0}, {0, 1, 0}, {0, 0, -1}, {0, 0, 100000}, {HIGHEST, 0, 0}, {0, LOWEST, 0}};
        for (int[] b : bad) {
            due("ifGate, others", NONE, x.ifGate(b[0], b[1], b[2]));
        }
    }

    // promise 34
    private static void count() {
        CupPot x = Check.withBook(CLUBS + "cup 60 30 10;cup 60 30 10;cup 60 30 10");
        Check.deeds(x, "tie 0 0 0 1;tie 1 0 2 3;play 0 1 drawn;play 0 1 first;play 1 2 drawn;close 0 0");
        x.tie(2, 0, 0, 3);
        x.sign(0);
        int[] want = {4, 3, 3, 3, 1, 1, 2, 4};
        for (int what = 0; what < 8; what++) {
            due("count(" + what + ")", want[what], x.count(what));
        }
        for (int what : new int[] {-1, 8, LOWEST, HIGHEST}) {
            due("count, others", NONE, x.count(what));
        }
    }
}
