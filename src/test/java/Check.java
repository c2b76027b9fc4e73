import java.nio.charset.StandardCharsets;
import java.util.NoSuchElementException;

/** What all tests use: telling a text to THE TAPE, and counting the answers that are not due. */
final class Check {
    private static int wrong = 0;
    private static int checks = 0;
    private static String sentence = "";

    private Check() {
    }

    /** What the document says that the checks behind this look at. */
    static void says(String words) {
        sentence = "[" + words + "] ";
    }

    static void due(String call, long want, long got) {
        checks++;
        if (got != want) {
            wrong++;
            if (wrong <= 50) {
                System.out.println(sentence + call + " answered " + got + ", due is " + want);
            }
        }
    }

    static void due(String call, boolean want, boolean got) {
        due(call, want ? 1 : 0, got ? 1 : 0);
    }

    /** Numbers out of bounds: next to them on both sides, and the farthest. */
    static int[] beyond(int low, int high) {
        return new int[] {low - 1, high + 1, Integer.MIN_VALUE, Integer.MAX_VALUE};
    }

    static void noSuchClub(CupPot pot, int club, int what) {
        boolean thrown = false;
        try {
            pot.club(club, what);
        } catch (NoSuchElementException e) {
            thrown = true;
        }
        due("club(" + club + ", " + what + ") throws NoSuchElementException", true, thrown);
    }

    /** Puts a text behind THE TAPE, which must be long enough for it. */
    static void tell(CupPot pot, String text) {
        byte[] signs = text.getBytes(StandardCharsets.ISO_8859_1);
        int before = pot.count(7);
        for (int i = 0; i < signs.length; i += 4) {
            int v = 0;
            for (int j = i; j < i + 4; j++) {
                v = v << 8 | (j < signs.length ? signs[j] & 255 : 0);
            }
            if (pot.sign(v) == CupPot.NONE) {
                throw new IllegalStateException("the text is too long for this helper: " + text);
            }
        }
        pot.end(before + signs.length);
    }

    static CupPot withBook(String text) {
        CupPot pot = new CupPot();
        tell(pot, text);
        if (pot.book() == CupPot.NONE) {
            throw new IllegalStateException("no BOOK: " + text);
        }
        return pot;
    }

    static int deeds(CupPot pot, String text) {
        tell(pot, text);
        return pot.deeds();
    }

    /** A BOOK with a FAULT at the place of the sign |, which is itself left out. */
    static void bookFault(String text, int fault) {
        CupPot x = new CupPot();
        tell(x, text.replace("|", ""));
        due("book(): " + text, CupPot.NONE, x.book());
        faults(x, text, fault);
    }

    /** DEEDS with a FAULT, told as by bookFault. */
    static void deedsFault(String book, String text, int fault) {
        CupPot x = withBook(book);
        due("deeds(): " + text, CupPot.NONE, deeds(x, text.replace("|", "")));
        faults(x, text, fault);
        due("nothing done: " + text, 0, x.count(2));
        due("no act: " + text, 0, x.count(6));
    }

    private static void faults(CupPot x, String text, int fault) {
        due("fault(0): " + text, fault, x.fault(0));
        due("fault(1): " + text, text.indexOf('|'), x.fault(1));
        due("tape: " + text, 0, x.count(7));
    }

    static void finish(String test) {
        System.out.println(test + ": " + checks + " answers looked at, " + wrong + " not as due");
        if (wrong != 0 || checks == 0) {
            System.exit(1);
        }
    }
}
