/** The bounds of a BOOK: how many LINES, the least and the greatest of each number, FAULTS. Promise 4, Terms 1. */
public final class BookBoundsTest {
    private static final int NONE = -1;
    private static final String TWO = "club 1 2 3;club 4 5 6;";
    private static final String[] OPTIONS = {"first 1", "floor 7", "replays 2", "again 20 30 50", "neutral 3", "odd 2"};

    public static void main(String[] args) {
        howManyClubs();
        howManyCups();
        costs();
        fares();
        guards();
        parts();
        firsts();
        floors();
        replays();
        partsOfReplays();
        partsOfReplaysNotTold();
        neutrals();
        odds();
        waysOfARound();
        wayOfACupToldAhead();
        lines();
        optionsInThisOrder();
        optionsAreOptional();
        moreThanFiveDigits();
        partsTogether();
        firstTokenWithAFault();
        placeOfTheEnd();
        ofOneTokenTheLeast();
        whatCantStandThere();
        eachLetterOfAWord();
        tooManyAtTheWord();
        tooFewAtTheEnd();
        howManyLines();
        faultLeavesAll();
        tapeIsEmpty();
        bookLeavesNone();
        bookLeavesNoOptions();
        Check.finish("BookBoundsTest");
    }

    private static void due(String call, long want, long got) {
        Check.due(call, want, got);
    }

    private static CupPot good(String text, int lines) {
        CupPot x = new CupPot();
        Check.tell(x, text);
        due("book(): " + text, lines, x.book());
        due("fault(0): " + text, 0, x.fault(0));
        due("fault(1): " + text, NONE, x.fault(1));
        return x;
    }

    /** A text with @ for a number that is to be 0 at least: the least, the greatest, and one more or less. */
    private static void bounds(String text, int lines, int low, int high, Twins.Call told) {
        for (int n : new int[] {low, low + 1, high - 1, high}) {
            CupPot x = good(text.replace("@", "" + n), lines);
            due("told: " + n, n, told.on(x));
        }
        Check.bookFault(text.replace("@", "|" + (high + 1)), 2);
        Check.bookFault(text.replace("@", high < 99999 ? "|99999" : "|999999"), 2);
        if (low > 0) {
            Check.bookFault(text.replace("@", "|" + (low - 1)), 2);
        }
        // nothing is below 0: a - is a sign of its own
        Check.bookFault(text.replace("@", "|-1"), 1);
    }

    private static String clubs(int n) {
        return "club 0 0 0;".repeat(n);
    }

    private static void howManyClubs() {
        Check.says("CLUBS 0 .. (2 .. 12)");
        for (int n = 2; n <= 12; n++) {
            CupPot x = good(clubs(n) + "cup 1 1 98", n + 1);
            due("clubs", n, x.count(0));
            due("the last", 0, x.club(n - 1, 2));
            Check.noSuchClub(x, n, 2);
        }
        Check.bookFault("cup 1 1 98|", 4);
        Check.bookFault(clubs(1) + "cup 1 1 98|", 4);
        Check.bookFault(clubs(12) + "|club 0 0 0;cup 1 1 98", 3);
    }

    private static void howManyCups() {
        Check.says("CUPS 0 .. (1 .. 4)");
        for (int n = 1; n <= 4; n++) {
            CupPot x = good(TWO + "cup 1 1 98;".repeat(n - 1) + "cup 2 2 96", n + 2);
            due("cups", n, x.count(1));
            due("the last", 96, x.cup(n - 1, 2));
            due("none such", NONE, x.cup(n, 2));
        }
        Check.bookFault("club 1 2 3;club 4 5 6|", 4);
        Check.bookFault(TWO + "cup 1 1 98;".repeat(4) + "|cup 1 1 98", 3);
    }

    private static void costs() {
        Check.says("COST 0 .. 9999");
        bounds("club 0 0 0;club @ 0 0;cup 1 1 98", 3, 0, 9999, x -> x.club(1, 0));
    }

    private static void fares() {
        Check.says("FARE 0 .. 9999");
        bounds("club 0 0 0;club 0 @ 0;cup 1 1 98", 3, 0, 9999, x -> x.club(1, 1));
    }

    private static void guards() {
        Check.says("GUARD 0 .. 99999");
        bounds("club 0 0 0;club 0 0 @;cup 1 1 98", 3, 0, 99999, x -> x.club(1, 2));
    }

    private static void parts() {
        Check.says("PARTS of HOST, GUEST, POOL (0 .. 100 each, 100 together)");
        int[][] rows = {{100, 0, 0}, {0, 100, 0}, {0, 0, 100}, {99, 1, 0}, {1, 99, 0}, {0, 1, 99}, {33, 33, 34}};
        for (int[] row : rows) {
            CupPot x = good(TWO + "cup " + row[0] + " " + row[1] + " " + row[2], 3);
            for (int what = 0; what < 3; what++) {
                due("cup(0, " + what + ")", row[what], x.cup(0, what));
            }
        }
        Check.bookFault(TWO + "cup |101 0 0", 2);
        Check.bookFault(TWO + "cup 0 |101 0", 2);
        Check.bookFault(TWO + "cup 0 0 |101", 2);
        Check.bookFault(TWO + "cup |-1 1 100", 1);
        Check.bookFault(TWO + "cup 1 |-1 100", 1);
        Check.bookFault(TWO + "cup 50 51 |-1", 1);
    }

    private static void firsts() {
        Check.says("FIRST 0 .. 2 (0)");
        bounds(TWO + "cup 1 1 98 first @", 3, 0, 2, x -> x.cup(0, 3));
        due("not told", 0, good(TWO + "cup 1 1 98", 3).cup(0, 3));
    }

    private static void floors() {
        Check.says("FLOOR 0 .. 99999 (0)");
        bounds(TWO + "cup 1 1 98 floor @", 3, 0, 99999, x -> x.cup(0, 4));
        due("not told", 0, good(TWO + "cup 1 1 98", 3).cup(0, 4));
    }

    private static void replays() {
        Check.says("REPLAYS 0 .. 3 (1)");
        bounds(TWO + "cup 1 1 98 replays @", 3, 0, 3, x -> x.cup(0, 5));
        due("not told", 1, good(TWO + "cup 1 1 98", 3).cup(0, 5));
    }

    private static void partsOfReplays() {
        Check.says("PARTS of replays");
        int[][] rows = {{100, 0, 0}, {0, 100, 0}, {0, 0, 100}, {33, 33, 34}};
        for (int[] row : rows) {
            CupPot x = good(TWO + "cup 1 1 98 again " + row[0] + " " + row[1] + " " + row[2], 3);
            for (int what = 0; what < 3; what++) {
                due("cup(0, " + (6 + what) + ")", row[what], x.cup(0, 6 + what));
            }
            due("the others stay", 98, x.cup(0, 2));
        }
        Check.bookFault(TWO + "cup 1 1 98 again |101 0 0", 2);
        Check.bookFault(TWO + "cup 1 1 98 again 0 |101 0", 2);
        Check.bookFault(TWO + "cup 1 1 98 again 0 0 |101", 2);
    }

    private static void partsOfReplaysNotTold() {
        Check.says("(as told for others, if not told)");
        CupPot x = good(TWO + "cup 20 30 50;cup 1 2 97 again 4 5 91;cup 6 7 87", 5);
        int[][] want = {{20, 30, 50}, {4, 5, 91}, {6, 7, 87}};
        for (int cup = 0; cup < 3; cup++) {
            for (int what = 0; what < 3; what++) {
                due("cup(" + cup + ", " + (6 + what) + ")", want[cup][what], x.cup(cup, 6 + what));
            }
        }
    }

    private static void neutrals() {
        Check.says("NEUTRAL 1 .. 6 (6)");
        bounds(TWO + "cup 1 1 98 neutral @", 3, 1, 6, x -> x.cup(0, 9));
        due("not told", 6, good(TWO + "cup 1 1 98", 3).cup(0, 9));
    }

    private static void odds() {
        Check.says("ODD 0 .. 2 (0)");
        bounds(TWO + "cup 1 1 98 odd @", 3, 0, 2, x -> x.cup(0, 10));
        due("not told", 0, good(TWO + "cup 1 1 98", 3).cup(0, 10));
    }

    private static void waysOfARound() {
        Check.says("of each ROUND 0 .. 5 a WAY 0 .. 3 (0 at first)");
        for (int round = 0; round < 6; round++) {
            int r = round;
            bounds(TWO + "cup 1 1 98;way 0 " + round + " @", 4, 0, 3, x -> x.pool(0, r, 5));
            CupPot x = good(TWO + "cup 1 1 98;way 0 " + round + " 3", 4);
            for (int other = 0; other < 6; other++) {
                due("WAY of ROUND " + other, other == round ? 3 : 0, x.pool(0, other, 5));
            }
        }
        Check.bookFault(TWO + "cup 1 1 98;way 0 |6 3", 2);
        Check.bookFault(TWO + "cup 1 1 98;way 0 |-1 3", 1);
        CupPot x = good(TWO + "cup 1 1 98;way 0 2 1;way 0 2 3;way 0 2 2", 6);
        due("the latest told", 2, x.pool(0, 2, 5));
    }

    private static void wayOfACupToldAhead() {
        Check.says("way C R N (of a CUP told ahead, a ROUND)");
        String four = "cup 1 1 98;cup 1 1 98;cup 1 1 98;cup 1 1 98;";
        for (int cup = 0; cup < 4; cup++) {
            CupPot x = good(TWO + four + "way " + cup + " 1 2", 7);
            for (int other = 0; other < 4; other++) {
                due("WAY of CUP " + other, other == cup ? 2 : 0, x.pool(other, 1, 5));
            }
        }
        Check.bookFault(TWO + four + "way |4 0 0", 2);
        Check.bookFault("way |0 0 0;" + TWO + "cup 1 1 98", 2);
        Check.bookFault(TWO + "way |0 0 0;cup 1 1 98", 2);
        Check.bookFault(TWO + "cup 1 1 98;way |1 0 0;cup 1 1 98", 2);
        good(TWO + "cup 1 1 98;way 0 0 0;cup 1 1 98;way 1 0 0", 6);
        good("cup 1 1 98;way 0 5 3;club 1 2 3;way 0 5 2;club 4 5 6", 5);
    }

    private static void lines() {
        Check.says("A BOOK: LINE {; LINE}");
        String book = "club 1 2 3;club 4 5 6;cup 1 1 98";
        good(book, 3);
        Check.bookFault("|", 1);
        Check.bookFault(" \n |", 1);
        Check.bookFault("|;", 1);
        Check.bookFault("|;" + book, 1);
        Check.bookFault(book + ";|", 1);
        Check.bookFault(book + ";  |", 1);
        Check.bookFault(book + ";|;", 1);
        Check.bookFault("club 1 2 3;|;club 4 5 6;cup 1 1 98", 1);
        Check.bookFault("club 1 2 3 |club 4 5 6;cup 1 1 98", 1);
        Check.bookFault("club 1 2 3|,club 4 5 6;cup 1 1 98", 1);
        good("cup 1 1 98;club 1 2 3;club 4 5 6", 3);
        good("club 1 2 3;cup 1 1 98;club 4 5 6", 3);
    }

    private static void optionsInThisOrder() {
        Check.says("(in this order)");
        for (int i = 0; i < OPTIONS.length; i++) {
            Check.bookFault(TWO + "cup 1 1 98 " + OPTIONS[i] + " |" + OPTIONS[i], 1);
            for (int j = i + 1; j < OPTIONS.length; j++) {
                good(TWO + "cup 1 1 98 " + OPTIONS[i] + " " + OPTIONS[j], 3);
                Check.bookFault(TWO + "cup 1 1 98 " + OPTIONS[j] + " |" + OPTIONS[i], 1);
            }
            // ahead of PARTS, in their midst, and of a club
            Check.bookFault(TWO + "cup |" + OPTIONS[i] + " 1 1 98", 1);
            Check.bookFault(TWO + "cup 1 1 |" + OPTIONS[i] + " 98", 1);
            Check.bookFault("club 1 2 3 |" + OPTIONS[i], 1);
        }
    }

    private static void optionsAreOptional() {
        Check.says("cup N N N (PARTS) [first N] [floor N] [replays N] [again N N N] [neutral N] [odd N]");
        int[] at = {3, 4, 5, 6, 9, 10};
        int[] usual = {0, 0, 1, 1, 6, 0};
        int[] told = {1, 7, 2, 20, 3, 2};
        for (int set = 0; set < 1 << OPTIONS.length; set++) {
            StringBuilder text = new StringBuilder(TWO + "cup 1 1 98");
            for (int i = 0; i < OPTIONS.length; i++) {
                text.append((set >> i & 1) == 1 ? " " + OPTIONS[i] : "");
            }
            CupPot x = good(text.toString(), 3);
            for (int i = 0; i < OPTIONS.length; i++) {
                due("cup(0, " + at[i] + "): " + text, (set >> i & 1) == 1 ? told[i] : usual[i], x.cup(0, at[i]));
            }
        }
        // each word needs its number
        for (String word : new String[] {"first", "floor", "replays", "again", "again 1", "again 1 2", "neutral", "odd"}) {
            Check.bookFault(TWO + "cup 1 1 98 " + word + "|", 1);
            Check.bookFault(TWO + "cup 1 1 98 " + word + "|;club 1 2 3", 1);
        }
    }

    private static void moreThanFiveDigits() {
        Check.says("2 a number of more than 5 digits");
        CupPot x = good("club 00000 00001 00000;club 09999 09999 99999;cup 00100 00000 0", 3);
        due("five digits", 9999, x.club(1, 0));
        due("five digits", 1, x.club(0, 1));
        Check.bookFault("club |000000 0 0", 2);
        Check.bookFault("club 0 |000001 0", 2);
        Check.bookFault("club 0 0 |099999", 2);
        Check.bookFault(TWO + "cup 1 1 |000098", 2);
        Check.bookFault(TWO + "cup |000001 1 98", 2);
        Check.bookFault(TWO + "cup 1 1 98 neutral |000001", 2);
        Check.bookFault(TWO + "cup 1 1 98;way 0 |000000 0", 2);
        // numbers that would wrap to one within bounds: 2 ** 32 and 2 ** 64
        Check.bookFault("club |4294967296 0 0", 2);
        Check.bookFault("club |18446744073709551616 0 0", 2);
        Check.bookFault("club |" + "0".repeat(590) + " 0", 2);
    }

    private static void partsTogether() {
        Check.says("PARTS that are not 100 together (at the third)");
        for (String ahead : new String[] {"cup ", "cup 1 1 98 again "}) {
            good(TWO + ahead + "40 35 25", 3);
            Check.bookFault(TWO + ahead + "40 35 |24", 2);
            Check.bookFault(TWO + ahead + "40 35 |26", 2);
            Check.bookFault(TWO + ahead + "100 0 |1", 2);
            Check.bookFault(TWO + ahead + "100 1 |0", 2);
            Check.bookFault(TWO + ahead + "100 100 |0", 2);
            Check.bookFault(TWO + ahead + "0 0 |0", 2);
            Check.bookFault(TWO + ahead + "0 0 |99", 2);
            Check.bookFault(TWO + ahead + "100 1|", 1);
            Check.bookFault(TWO + ahead + "100 1 |first", 1);
        }
    }

    private static void firstTokenWithAFault() {
        Check.says("FAULT, the first TOKEN at which there is one (its first sign");
        Check.bookFault("club |10000 99999 0 ;;;", 2);
        Check.bookFault("club 1 2 3 |x 123456", 1);
        Check.bookFault("club 1 |123456 x", 2);
        Check.bookFault("cup 1 1 |97 first 9", 2);
        Check.bookFault("cup 1 1 98 first |9 odd 9", 2);
        Check.bookFault(clubs(12) + "|club 123456 x", 3);
        Check.bookFault(clubs(11) + "club 0 0 |123456;club 0 0 0", 2);
        Check.bookFault("   |oops", 1);
        Check.bookFault("club 1 2    |3333333 4", 2);
    }

    private static void placeOfTheEnd() {
        Check.says("the end's: how many signs");
        Check.bookFault("club|", 1);
        Check.bookFault("club   |", 1);
        Check.bookFault("club 1 2 3\n\n|", 4);
        String book = "club 1 2 3;cup 1 1 98";
        Check.bookFault(book + " ".repeat(600 - book.length()) + "|", 4);
        Check.bookFault(book + ";" + " ".repeat(599 - book.length()) + "|", 1);
    }

    private static void ofOneTokenTheLeast() {
        Check.says("of one TOKEN the least");
        // 1 and 2: a number that is too long where none can stand
        Check.bookFault("|123456", 1);
        Check.bookFault("club 1 2 3 |123456", 1);
        Check.bookFault("cup 1 1 98 |123456", 1);
        Check.bookFault("cup 1 1 98 first 1 |123456", 1);
        // 1 and 3: a club too many where none can stand
        Check.bookFault(clubs(11) + "club 0 0 0 |club 0 0 0", 1);
        Check.bookFault("cup 1 1 98;".repeat(3) + "cup 1 1 98 |cup 1 1 98", 1);
        // 1 and 4: an end that can't stand there, with too few
        Check.bookFault("club 1 2 3;|", 1);
        Check.bookFault("club 1 2|", 1);
        Check.bookFault("cup 1 1 98 first|", 1);
    }

    private static void whatCantStandThere() {
        Check.says("1 what can't stand there");
        String[] texts = {"|1", "|first 1", "|tie 0 0 0 1", "|clu 1 2 3", "|clubs 1 2 3", "|CLUB 1 2 3", "club |club 1 2 3",
            "club 1 |; 2 3", "club 1 2|", "club 1 2 3 |4", "club 1 2 3 |first 1", "cup 1 1|", "cup 1 1 98 |2", "cup 1 1 98 |way 0 0 0",
            "cup 1 1 98;way|", "cup 1 1 98;way 0|", "cup 1 1 98;way 0 0|", "cup 1 1 98;way 0 0 |;", "cup 1 1 98;way 0 0 0 |0",
            "cup 1 1 98;way |x", "cup 1 1 98;|ways 0 0 0", "cup 1 1 98 |firs 1", "cup 1 1 98 |odds 1", "club 1 2 3|\u0000", "club 1 2 3|\u00ff"};
        for (String text : texts) {
            Check.bookFault(text, 1);
        }
    }

    private static void eachLetterOfAWord() {
        Check.says("words (rows of letters a .. z)");
        String[] words = {"club", "cup", "way", "first", "floor", "replays", "again", "neutral", "odd"};
        for (int i = 0; i < words.length; i++) {
            String ahead = i < 3 ? TWO : TWO + "cup 1 1 98 ";
            for (int at = 0; at < words[i].length(); at++) {
                String start = words[i].substring(0, at);
                String rest = words[i].substring(at + 1);
                Check.bookFault(ahead + "|" + start + (words[i].charAt(at) == 'x' ? 'y' : 'x') + rest, 1);
                // one letter less, one more
                Check.bookFault(ahead + "|" + start + rest, 1);
                Check.bookFault(ahead + "|" + start + words[i].charAt(at) + words[i].substring(at), 1);
            }
        }
        for (String word : new String[] {"tie", "play", "close"}) {
            for (int at = 0; at < word.length(); at++) {
                String marred = word.substring(0, at) + "x" + word.substring(at + 1);
                Check.deedsFault(TWO + "cup 1 1 98", "|" + marred + " 0 0 0 1", 1);
            }
        }
    }

    private static void tooManyAtTheWord() {
        Check.says("3 (BOOK) a 13th club, a 5th cup (at the word)");
        String fourCups = "cup 1 1 98;".repeat(4);
        good(clubs(12) + fourCups + "way 0 0 0", 17);
        Check.bookFault(fourCups + clubs(12) + "|club 0 0 0", 3);
        Check.bookFault(fourCups + clubs(12) + "|club", 3);
        Check.bookFault(fourCups + clubs(12) + " \n |club ; ;", 3);
        Check.bookFault(clubs(12) + fourCups + "|cup 1 1 98", 3);
        Check.bookFault(clubs(12) + fourCups + "|cup", 3);
        Check.bookFault(clubs(12) + fourCups + "way 0 0 0;|cup x", 3);
    }

    private static void tooFewAtTheEnd() {
        Check.says("4 (BOOK, at the end) fewer than 2 CLUBS, no CUP.");
        Check.bookFault("club 1 2 3|", 4);
        Check.bookFault("club 1 2 3;club 1 2 3|", 4);
        Check.bookFault("cup 1 1 98|", 4);
        Check.bookFault("cup 1 1 98;cup 1 1 98;way 1 1 1|", 4);
        Check.bookFault("cup 1 1 98;club 1 2 3|", 4);
        Check.bookFault(clubs(11) + "club 0 0 0|", 4);
        Check.bookFault("cup 1 1 98;".repeat(3) + "cup 1 1 98;club 1 2 3|", 4);
        good("cup 1 1 98;club 1 2 3;club 1 2 3", 3);
    }

    private static void howManyLines() {
        Check.says("THE TAPE (empty then) is a BOOK: how many LINES.");
        good("club0 0 0;club0 0 0;cup0 0 100", 3);
        good("club0 0 0;club0 0 0;cup0 0 100" + ";way0 0 0".repeat(63), 66);
        due("so many signs", 597, ("club0 0 0;club0 0 0;cup0 0 100" + ";way0 0 0".repeat(63)).length());
        good("club0 0 0;club0 0 0;cup0 0 100" + ";way0 0 0".repeat(63) + "   ", 66);
    }

    private static void faultLeavesAll() {
        Check.says("NONE: a FAULT (but for THE TAPE all stays).");
        String[] texts = {"", "oops", "club 9 9 9;club 8 8 8;cup 5 5 90;way 0 0 3;way 1 0 0", "club 9 9 9;club 8 8 8",
            "club 9 9 9;club 8 8 8;cup 5 5 90 first 2 floor 9 replays 3 again 1 1 98 neutral 2 odd 1;", clubs(13)};
        for (String text : texts) {
            for (Twins.Step before : new Twins.Step[] {x -> { }, Twins.FAULTY, Twins.BOOKED, Twins.MIDWAY}) {
                Twins.leavesAllButTape("book() of " + text, NONE, before, x -> {
                    x.end(0);
                    Check.tell(x, text);
                    return x.book();
                });
            }
        }
    }

    private static void tapeIsEmpty() {
        Check.says("THE TAPE (empty then)");
        CupPot x = good(TWO + "cup 1 1 98", 3);
        due("signs", 0, x.count(7));
        due("end(1)", 0, x.end(1) ? 1 : 0);
        due("sign()", 4, x.sign(0x20202020));
        due("a BOOK of blanks", NONE, x.book());
        due("signs", 0, x.count(7));
        due("end(1)", 0, x.end(1) ? 1 : 0);
        due("the next is an empty one", NONE, x.book());
        due("place", 0, x.fault(1));
    }

    private static void bookLeavesNoOptions() {
        Check.says("FIRST 0 .. 2 (0); FLOOR 0 .. 99999 (0); REPLAYS 0 .. 3 (1); PARTS of replays (as told for others, if not told); "
            + "NEUTRAL 1 .. 6 (6); ODD 0 .. 2 (0); of each ROUND 0 .. 5 a WAY 0 .. 3 (0 at first).");
        String told = "cup 1 1 98 first 2 floor 9 replays 3 again 2 2 96 neutral 1 odd 2";
        String all = TWO + told + ";" + told + ";" + told + ";" + told + ";way 0 0 1;way 1 5 2;way 2 3 3;way 3 0 3";
        int[] usual = {5, 15, 80, 0, 0, 1, 5, 15, 80, 6, 0, 0, 0, 0};
        for (String end : new String[] {"", ";oops"}) {
            CupPot x = new CupPot();
            Check.tell(x, all + end);
            due("book()", end.isEmpty() ? 10 : NONE, x.book());
            Check.tell(x, TWO + "cup 5 15 80;".repeat(3) + "cup 5 15 80");
            due("book()", 6, x.book());
            for (int cup = 0; cup < 4; cup++) {
                for (int what = 0; what < usual.length; what++) {
                    due("cup(" + cup + ", " + what + ")", usual[what], x.cup(cup, what));
                }
                for (int round = 0; round < 6; round++) {
                    due("WAY of " + cup + ", " + round, 0, x.pool(cup, round, 5));
                }
            }
        }
    }

    private static void bookLeavesNone() {
        Check.says("a BOOK leaves none, nothing kept, no TIES");
        for (String text : new String[] {Twins.SMALL_BOOK, Twins.MIDWAY_BOOK}) {
            Twins.Step book = x -> {
                x.end(0);
                Check.tell(x, text);
                x.book();
                Check.tell(x, "tie 0 0 1 0");
            };
            Twins.alike("a BOOK behind another one", book, Twins.then(Twins.MIDWAY, book));
            Twins.alike("a BOOK behind a FAULT", book, Twins.then(Twins.FAULTY, book));
        }
        CupPot x = Twins.made(Twins.MIDWAY);
        x.end(0);
        Check.tell(x, Twins.MIDWAY_BOOK);
        due("book()", 8, x.book());
        due("none can be undone", 0, x.count(6));
        due("undo()", -2, x.undo());
        due("again(0)", 0, x.again(0) ? 1 : 0);
        due("again(1)", 0, x.again(1) ? 1 : 0);
        due("no TIES", 0, x.count(2));
        due("nothing CLOSED", 0, x.count(5));
    }
}
