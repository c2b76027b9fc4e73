/** The bounds of THE TAPE: how many signs, which ones, what TOKENS they make. Promises 1, 2, 3, 6. */
public final class TapeBoundsTest {
    private static final int NONE = -1;
    private static final int BLANKS = 0x20202020;

    public static void main(String[] args) {
        atMost600();
        noneComesBeyond600();
        highestByteFirst();
        endWithin();
        endBeyond();
        endLeavesTheFirst();
        eachSignBetweenBlanks();
        eachSignBehindAWord();
        eachSignBehindANumber();
        singleSignsAreTokens();
        blanksAnywhere();
        blanksPartTokens();
        faultAheadOfAny();
        faultOfTheLatest();
        faultOfAnotherWhat();
        noBook();
        the512thCall();
        Check.finish("TapeBoundsTest");
    }

    private static void due(String call, long want, long got) {
        Check.due(call, want, got);
    }

    private static CupPot filled(int signs) {
        CupPot x = new CupPot();
        fill(x, signs);
        return x;
    }

    /** A BOOK of so many signs, blanks behind it. */
    private static void fill(CupPot x, int signs) {
        Check.tell(x, Twins.SMALL_BOOK + " ");
        for (int i = x.count(7); i < 600; i += 4) {
            x.sign(BLANKS);
        }
        x.end(signs);
    }

    private static void atMost600() {
        Check.says("THE TAPE has 600 signs at most.");
        CupPot x = new CupPot();
        for (int i = 1; i <= 150; i++) {
            due("sign() from " + (4 * i - 4), 4 * i, x.sign(BLANKS));
        }
        due("signs", 600, x.count(7));
        for (int signs = 593; signs <= 596; signs++) {
            x = filled(signs);
            due("filled", signs, x.count(7));
            due("sign() from " + signs, signs + 4, x.sign(BLANKS));
            due("signs then", signs + 4, x.count(7));
            due("a BOOK of " + (signs + 4) + " signs", 3, x.book());
        }
    }

    private static void noneComesBeyond600() {
        Check.says("NONE, and none comes: there would be more than 600.");
        for (int signs = 597; signs <= 600; signs++) {
            int n = signs;
            Twins.leavesAll("sign() from " + n, NONE, x -> fill(x, n), x -> x.sign('x' << 24 | 0x787878));
        }
        CupPot x = filled(600);
        due("a second time", NONE, x.sign(0));
        due("a third time", NONE, x.sign(-1));
        due("end(596)", 1, x.end(596) ? 1 : 0);
        due("there is room again", 600, x.sign(BLANKS));
    }

    private static void highestByteFirst() {
        Check.says("Four signs come behind THE TAPE, of v the highest byte first: how many it has.");
        for (int place = 0; place < 4; place++) {
            for (int sign : new int[] {'x', 0, 127, 128, 255}) {
                CupPot x = new CupPot();
                int shift = 24 - 8 * place;
                int v = BLANKS & ~(255 << shift) | sign << shift;
                due("sign(" + v + ")", 4, x.sign(v));
                due("sign(blanks)", 8, x.sign(BLANKS));
                due("book()", NONE, x.book());
                due("FAULT", 1, x.fault(0));
                due("place of the sign " + sign, place, x.fault(1));
            }
        }
        // behind THE TAPE, where end() left it
        CupPot x = new CupPot();
        x.sign('c' << 24 | 'l' << 16 | 'x' << 8 | 'x');
        x.end(2);
        due("sign behind 2", 6, x.sign('u' << 24 | 'b' << 16 | ' ' << 8 | '?'));
        x.book();
        due("place", 5, x.fault(1));
    }

    private static void endWithin() {
        Check.says("THE TAPE has its first n signs alone: true");
        for (int n : new int[] {0, 1, 35, 38, 39}) {
            CupPot x = new CupPot();
            Check.tell(x, Twins.SMALL_BOOK);
            due("end(" + n + ")", 1, x.end(n) ? 1 : 0);
            due("signs", n, x.count(7));
        }
        CupPot x = new CupPot();
        due("end(0) of an empty one", 1, x.end(0) ? 1 : 0);
        x = filled(600);
        due("end(600)", 1, x.end(600) ? 1 : 0);
        due("600 signs", 600, x.count(7));
    }

    private static void endBeyond() {
        Check.says("false: it has not so many, n below 0.");
        for (int n : Check.beyond(0, Twins.SMALL_BOOK.length())) {
            Twins.leavesAll("end(" + n + ")", 0, Twins.TOLD, x -> x.end(n) ? 1 : 0);
        }
        for (int n : Check.beyond(0, 0)) {
            Twins.leavesAll("end(" + n + ") of an empty one", 0, x -> { }, x -> x.end(n) ? 1 : 0);
        }
        for (int n : new int[] {601, 604, -600}) {
            Twins.leavesAll("end(" + n + ") of 600", 0, x -> fill(x, 600), x -> x.end(n) ? 1 : 0);
        }
        // what was cut does not come back
        CupPot x = new CupPot();
        Check.tell(x, Twins.SMALL_BOOK);
        x.end(10);
        due("end(11)", 0, x.end(11) ? 1 : 0);
        due("signs", 10, x.count(7));
    }

    private static void endLeavesTheFirst() {
        Check.says("THE TAPE has its first n signs alone");
        CupPot x = new CupPot();
        Check.tell(x, Twins.SMALL_BOOK + "x");
        x.end(Twins.SMALL_BOOK.length());
        due("the first signs are a BOOK", 3, x.book());
        // the last digit is cut: PARTS are 60 30 1
        Check.tell(x, Twins.SMALL_BOOK);
        x.end(Twins.SMALL_BOOK.length() - 1);
        due("one less is none", NONE, x.book());
        due("FAULT", 2, x.fault(0));
        due("place", Twins.SMALL_BOOK.length() - 2, x.fault(1));
    }

    private static boolean isBlank(int sign) {
        return sign == 32 || sign == 10;
    }

    private static boolean isLetter(int sign) {
        return sign >= 97 && sign <= 122;
    }

    private static boolean isDigit(int sign) {
        return sign >= 48 && sign <= 57;
    }

    private static void eachSignBetweenBlanks() {
        Check.says("blanks (32, 10) may stand anywhere between");
        for (int sign = 0; sign < 256; sign++) {
            CupPot x = new CupPot();
            x.sign(BLANKS & 0xff00ffff | sign << 16);
            due("book(): the sign " + sign, NONE, x.book());
            due("FAULT: the sign " + sign, 1, x.fault(0));
            due("place: the sign " + sign, isBlank(sign) ? 4 : 1, x.fault(1));
        }
    }

    private static void eachSignBehindAWord() {
        Check.says("TOKENS, the longest that can be: words (rows of letters a .. z)");
        for (int sign = 0; sign < 256; sign++) {
            CupPot x = new CupPot();
            Check.tell(x, "club" + (char) sign);
            due("book(): club and the sign " + sign, NONE, x.book());
            due("FAULT: club and the sign " + sign, 1, x.fault(0));
            int end = isBlank(sign) || isDigit(sign) ? 5 : 4;
            due("place: club and the sign " + sign, isLetter(sign) ? 0 : end, x.fault(1));
        }
    }

    private static void eachSignBehindANumber() {
        Check.says("numbers N (rows of digits)");
        for (int sign = 0; sign < 256; sign++) {
            CupPot x = new CupPot();
            Check.tell(x, "club 0 0 0;club 0 0 7" + (char) sign + ";cup 100 0 0");
            boolean stands = isBlank(sign) || isDigit(sign);
            due("book(): 7 and the sign " + sign, stands ? 3 : NONE, x.book());
            due("FAULT: 7 and the sign " + sign, stands ? 0 : 1, x.fault(0));
            // of two ; the second can't stand there
            due("place: 7 and the sign " + sign, stands ? NONE : sign == ';' ? 22 : 21, x.fault(1));
            if (stands) {
                due("GUARD", isDigit(sign) ? 70 + sign - 48 : 7, x.club(1, 2));
            }
        }
    }

    private static void singleSignsAreTokens() {
        Check.says("single other signs");
        String[] texts = {"|;;", "club 1 2 3;|;;", "club 1 2 3|::", "club 1 2 3;|--;", "|;club 1 2 3", "club |.5 1 1", "club 1|.5 1"};
        for (String text : texts) {
            CupPot x = new CupPot();
            Check.tell(x, text.replace("|", ""));
            due("book(): " + text, NONE, x.book());
            due("FAULT: " + text, 1, x.fault(0));
            due("place: " + text, text.indexOf('|'), x.fault(1));
        }
    }

    private static void blanksAnywhere() {
        Check.says("blanks (32, 10) may stand anywhere between");
        String[] tokens = {"club", "1", "2", "3", ";", "club", "4", "5", "6", ";", "cup", "50", "30", "20", "first", "1",
            "floor", "7", "replays", "2", "again", "20", "30", "50", "neutral", "3", "odd", "2", ";", "way", "0", "1", "3"};
        int[] cup = {50, 30, 20, 1, 7, 2, 20, 30, 50, 3, 2};
        for (String gap : new String[] {" ", "\n", "  ", "\n\n", " \n ", "          "}) {
            CupPot x = new CupPot();
            Check.tell(x, gap + String.join(gap, tokens) + gap);
            due("book(): each gap " + gap.length(), 4, x.book());
            for (int what = 0; what < cup.length; what++) {
                due("cup(0, " + what + ")", cup[what], x.cup(0, what));
            }
        }
        // a gap is needed between two numbers and between two words alone
        CupPot x = new CupPot();
        Check.tell(x, "club1 2 3;club4 5 6;cup50 30 20first1floor7replays2again20 30 50neutral3odd2;way0 1 3");
        due("book(): as few gaps as can be", 4, x.book());
        for (int what = 0; what < cup.length; what++) {
            due("cup(0, " + what + ")", cup[what], x.cup(0, what));
        }
        due("WAY", 3, x.pool(0, 1, 5));
        due("DEEDS with as few gaps as can be", 3, Check.deeds(x, "tie0 0 0 1;play0 9first;close0 0"));
        x.undo();
        due("DEEDS with many", 3, Check.deeds(x, "\n tie \n0  0\n\n0 1 ; play\n0 9\nfirst ;\nclose  0\n0 \n"));
    }

    private static void blanksPartTokens() {
        Check.says("TOKENS, the longest that can be");
        String[] texts = {"|cl ub 1 2 3", "|c\nlub 1 2 3", "cup 1 0 |0 0 0", "|clubcup", "|clubclub 1 2 3",
            "cup 100 0 0 |firstfloor 1", "cup 100 0 0 first |floor"};
        int[] faults = {1, 1, 2, 1, 1, 1, 1};
        for (int i = 0; i < texts.length; i++) {
            CupPot x = new CupPot();
            Check.tell(x, texts[i].replace("|", ""));
            due("book(): " + texts[i], NONE, x.book());
            due("FAULT: " + texts[i], faults[i], x.fault(0));
            due("place: " + texts[i], texts[i].indexOf('|'), x.fault(1));
        }
    }

    private static void faultAheadOfAny() {
        Check.says("0 and NONE ahead of any");
        CupPot x = new CupPot();
        due("fault(0)", 0, x.fault(0));
        due("fault(1)", NONE, x.fault(1));
        Check.tell(x, "no BOOK");
        due("fault(0), not read yet", 0, x.fault(0));
        due("fault(1), not read yet", NONE, x.fault(1));
    }

    private static void faults(CupPot x, String when, int fault, int place) {
        due("fault(0) " + when, fault, x.fault(0));
        due("fault(1) " + when, place, x.fault(1));
    }

    private static void faultOfTheLatest() {
        Check.says("Of the latest book(), deeds() what 0: its FAULT (0 without), 1: its place (NONE).");
        CupPot x = new CupPot();
        due("book()", NONE, x.book());
        faults(x, "of an empty BOOK", 1, 0);
        Check.tell(x, "tie 0 0 0 1");
        due("deeds()", NONE, x.deeds());
        faults(x, "of DEEDS without a FAULT, no BOOK", 0, NONE);
        Check.tell(x, "tie 0 0 0 123456");
        due("deeds()", NONE, x.deeds());
        faults(x, "of DEEDS with one, no BOOK", 2, 10);
        Check.tell(x, Twins.SMALL_BOOK);
        faults(x, "as long as none is read", 2, 10);
        due("book()", 3, x.book());
        faults(x, "of a BOOK without", 0, NONE);
        Check.tell(x, "  club 1 2 3 ");
        due("book()", NONE, x.book());
        faults(x, "of a BOOK with too few", 4, 13);
        due("deeds()", 0, Check.deeds(x, "close 0 0"));
        faults(x, "of DEEDS that can't be", 0, NONE);
        due("deeds()", NONE, x.deeds());
        faults(x, "of empty DEEDS", 1, 0);
        x.tie(0, 0, 0, 1);
        x.tie(0, 9, 0, 1);
        x.undo();
        faults(x, "whatever acts there are", 1, 0);
    }

    private static void faultOfAnotherWhat() {
        Check.says("NONE: another what.");
        for (int what : Check.beyond(0, 1)) {
            Twins.leavesAll("fault(" + what + "), none yet", NONE, Twins.TOLD, x -> x.fault(what));
            Twins.leavesAll("fault(" + what + ")", NONE, Twins.FAULTY, x -> x.fault(what));
            Twins.leavesAll("fault(" + what + "), a BOOK", NONE, Twins.MIDWAY, x -> x.fault(what));
        }
    }

    private static void noBook() {
        Check.says("No BOOK.");
        for (Twins.Step before : new Twins.Step[] {x -> { }, Twins.TOLD, Twins.FAULTY}) {
            for (int n = 0; n < 2; n++) {
                noBookActs(before, n);
                noBookLooks(before, n);
            }
        }
        CupPot x = new CupPot();
        for (int what = 0; what < 8; what++) {
            due("count(" + what + ")", 0, x.count(what));
        }
        due("and a BOOK can come", 3, Check.withBook(Twins.SMALL_BOOK).count(0) + 1);
    }

    private static void noBookActs(Twins.Step before, int n) {
        Twins.leavesAll("tie()", NONE, before, x -> x.tie(n, 0, 0, 1));
        Twins.leavesAll("play()", NONE, before, x -> x.play(n, 0, 0));
        Twins.leavesAll("close()", NONE, before, x -> x.close(n, 0));
        Twins.leavesAll("undo()", NONE, before, x -> x.undo());
        Twins.leavesAll("keep()", 0, before, x -> x.keep(n) ? 1 : 0);
        Twins.leavesAll("again()", 0, before, x -> x.again(n) ? 1 : 0);
    }

    private static void noBookLooks(Twins.Step before, int n) {
        Twins.leavesAll("club()", Twins.THROWN, before, x -> Picture.club(x, n, n));
        Twins.leavesAll("cup()", NONE, before, x -> x.cup(n, n));
        Twins.leavesAll("tieOf()", NONE, before, x -> x.tieOf(n, n));
        Twins.leavesAll("game()", NONE, before, x -> x.game(n, 0, n));
        Twins.leavesAll("pool()", NONE, before, x -> x.pool(n, 0, n));
        Twins.leavesAll("all()", NONE, before, x -> x.all(n));
        Twins.leavesAll("balance()", Integer.MIN_VALUE, before, x -> x.balance(n));
        Twins.leavesAll("fewest()", NONE, before, x -> x.fewest(n));
        Twins.leavesAll("pays()", NONE, before, x -> x.pays(n - 1, n));
        Twins.leavesAll("mark()", 0, before, x -> x.mark());
        Twins.leavesAll("met()", NONE, before, x -> x.met(n));
        Twins.leavesAll("chain()", NONE, before, x -> x.chain(n, n));
        Twins.leavesAll("in()", NONE, before, x -> x.in(n));
        Twins.leavesAll("ranked()", NONE, before, x -> x.ranked(n));
        Twins.leavesAll("bands()", NONE, before, x -> x.bands());
        Twins.leavesAll("brings()", NONE, before, x -> x.brings(n, 0, n));
        Twins.leavesAll("least()", NONE, before, x -> x.least(n, 0, n));
        Twins.leavesAll("byCup()", NONE, before, x -> x.byCup(n, 0, n));
        Twins.leavesAll("fairest()", NONE, before, x -> x.fairest(n));
        Twins.leavesAll("tempt()", Integer.MIN_VALUE, before, x -> x.tempt(n, 0, n));
        Twins.leavesAll("ifGate()", NONE, before, x -> x.ifGate(n, 0, n));
    }

    private static void the512thCall() {
        Check.says("An object is used for at most 512 calls after it has been made");
        CupPot x = new CupPot();
        for (int i = 0; i < 150; i++) {
            x.sign(BLANKS);
        }
        x.end(0);
        Check.tell(x, Twins.SMALL_BOOK);
        x.book();
        int calls = 150 + 1 + (1 + 10 + 1) + 1;
        while (calls < 510) {
            x.tie(0, 0, 0, 1);
            x.undo();
            calls += 2;
        }
        due("the 511th call", 0, x.tie(0, 0, 1, 0));
        due("the 512th call", 1, x.play(0, 100, 2));
    }
}
