import java.nio.charset.StandardCharsets;
import java.util.NoSuchElementException;

/** What all tests use: telling a text to THE TAPE, and counting the answers that are not due. */
final class Check {
    private static int wrong = 0;
    private static int checks = 0;

    private Check() {
    }

    static void due(String call, long want, long got) {
        checks++;
        if (got != want) {
            wrong++;
            if (wrong <= 50) {
                System.out.println(call + " answered " + got + ", due is " + want);
            }
        }
    }

    static void due(String call, boolean want, boolean got) {
        due(call, want ? 1 : 0, got ? 1 : 0);
    }

    static void noSuchClub(CupPot pot, int club, int what) {
        boolean thrown = false;
        try {
            pot.club(club, what);
        } catch (NoSuchElementException e) {
            thrown = true;
        }
        due("club(" + club + ", " + what + ") throws NoSuchElementException", true, thrown);
    }

    /** Puts a text behind THE TAPE, which must be long enough for it. */
    static void tell(CupPot pot, String text) {
        byte[] signs = text.getBytes(StandardCharsets.ISO_8859_1);
        int before = pot.count(7);
        for (int i = 0; i < signs.length; i += 4) {
            int v = 0;
            for (int j = i; j < i + 4; j++) {
                v = v << 8 | (j < signs.length ? signs[j] & 255 : 0);
            }
            if (pot.sign(v) == CupPot.NONE) {
                throw new IllegalStateException("the text is too long for this helper: " + text);
            }
        }
        pot.end(before + signs.length);
    }

    static CupPot withBook(String text) {
        CupPot pot = new CupPot();
        tell(pot, text);
        if (pot.book() == CupPot.NONE) {
            throw new IllegalStateException("no BOOK: " + text);
        }
        return pot;
    }

    static int deeds(CupPot pot, String text) {
        tell(pot, text);
        return pot.deeds();
    }

    static void finish(String test) {
        System.out.println(test + ": " + checks + " answers looked at, " + wrong + " not as due");
        if (wrong != 0 || checks == 0) {
            System.exit(1);
        }
    }
}
