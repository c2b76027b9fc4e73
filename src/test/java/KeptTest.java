import java.lang.reflect.Field;
import java.util.Arrays;

/**
 * No run of calls reaches ROUND 5 (see PromiseTest.lastRound), so what CUPS KEPT and by what clubs are
 * TOPPED up is looked at in a season that is put into the object from outside.
 */
public final class KeptTest {
    private static final int[] GUARDS = {200, 30, 0, 50, 30, 7, 1};

    public static void main(String[] args) throws ReflectiveOperationException {
        // of ROUND 5: each WINNER half, of 101 less than the whole; 1 is left
        expect(101, 0, 50, 1);
        expect(101, 3, 0, 101);
        expect(101, 1, 25, 1);
        expect(0, 3, 0, 0);
        // LACKS with WAY 3: 200, 30, 0, 50, 30, 7, 1
        topped(0, 0, 0, 0, 0, 0, 0, 0);
        topped(1, 0, 0, 0, 0, 0, 0, 1);
        topped(7, 0, 0, 0, 0, 0, 6, 1);
        topped(8, 0, 0, 0, 0, 0, 7, 1);
        topped(9, 0, 1, 0, 0, 0, 7, 1);
        topped(51, 0, 30, 0, 0, 13, 7, 1);
        topped(102, 0, 30, 0, 34, 30, 7, 1);
        topped(118, 0, 30, 0, 50, 30, 7, 1);
        topped(1000, 200, 30, 0, 50, 30, 7, 1);
        keptTogether();
        allTwelveLack();
        carriedOn();
        Check.finish("KeptTest");
    }

    private static CupPot lastRound(int gate, int way) throws ReflectiveOperationException {
        StringBuilder book = new StringBuilder();
        for (int guard : GUARDS) {
            book.append("club 0 0 ").append(guard).append(';');
        }
        CupPot x = Check.withBook(book + "cup 0 0 100;cup 0 0 100;way 1 5 " + way);
        x.tie(1, 0, 0, 1);
        x.tie(1, 0, 2, 3);
        x.play(0, gate - gate / 3, 0);
        x.play(1, gate / 3, 1);
        Object season = field(x, "season");
        Arrays.fill((int[]) field(season, "rounds"), 5);
        return x;
    }

    private static Object field(Object of, String name) throws ReflectiveOperationException {
        Field f = of.getClass().getDeclaredField(name);
        f.setAccessible(true);
        return f.get(of);
    }

    private static void expect(int gate, int way, int each, int kept) throws ReflectiveOperationException {
        CupPot x = lastRound(gate, way);
        Check.due("nothing is kept yet", 0, x.all(5));
        Check.due("close(1, 5), way " + way, each, x.close(1, 5));
        Check.due("cup(1, 11), way " + way, kept, x.cup(1, 11));
        Check.due("cup(0, 11)", 0, x.cup(0, 11));
        Check.due("all(5)", kept, x.all(5));
        Check.due("the pot has it", kept, x.balance(GUARDS.length));
    }

    private static void topped(int gate, int... want) throws ReflectiveOperationException {
        CupPot x = lastRound(gate, 3);
        x.close(1, 5);
        Check.due("all(5)", gate, x.all(5));
        for (int club = 0; club < GUARDS.length; club++) {
            Check.due("LACKS as it did", GUARDS[club], x.club(club, 8));
            Check.due("club(" + club + ", 9), kept " + gate, want[club], x.club(club, 9));
            Check.due("TOPPED is nothing that it HAS", 0, x.club(club, 3));
        }
    }

    private static void keptTogether() throws ReflectiveOperationException {
        Check.says("TOPPED: of all that CUPS KEPT together");
        // all 9 of CUP 1; of 5 of CUP 0 each WINNER gets 2, and 1 is KEPT
        CupPot x = lastRound(9, 3);
        x.tie(0, 0, 5, 6);
        x.play(2, 5, 0);
        x.tie(0, 0, 3, 4);
        x.play(3, 0, 0);
        Arrays.fill((int[]) field(field(x, "season"), "rounds"), 5);
        Check.due("close(0, 5)", 2, x.close(0, 5));
        Check.due("close(1, 5)", 0, x.close(1, 5));
        Check.due("cup(0, 11)", 1, x.cup(0, 11));
        Check.due("cup(1, 11)", 9, x.cup(1, 11));
        Check.due("all(5)", 10, x.all(5));
        // 3 and 5 won 2 each: LACKS are 200, 30, 0, 48, 30, 5, 1
        int[] want = {0, 4, 0, 0, 0, 5, 1};
        for (int club = 0; club < GUARDS.length; club++) {
            Check.due("club(" + club + ", 9)", want[club], x.club(club, 9));
        }
        x.undo();
        Check.due("one CUP's is not KEPT any more", 1, x.all(5));
        Check.due("club(6, 9)", 1, x.club(6, 9));
        Check.due("club(5, 9)", 0, x.club(5, 9));
    }

    private static void allTwelveLack() throws ReflectiveOperationException {
        Check.says("those that LACK least first (above 0; of like ones the least), each as much as it LACKS, as far as that goes");
        // 12 clubs that LACK 12, 11 .. 1: 78 together
        int[] sums = {0, 1, 2, 3, 5, 6, 7, 66, 67, 77, 78, 79};
        for (int kept : sums) {
            StringBuilder book = new StringBuilder();
            for (int guard = 12; guard >= 1; guard--) {
                book.append("club 0 0 ").append(guard).append(';');
            }
            CupPot x = Check.withBook(book + "cup 0 0 100;way 0 5 3");
            x.tie(0, 0, 0, 1);
            x.play(0, kept, 0);
            Arrays.fill((int[]) field(field(x, "season"), "rounds"), 5);
            x.close(0, 5);
            int left = kept;
            for (int club = 11; club >= 0; club--) {
                int topped = Math.min(left, 12 - club);
                Check.due("club(" + club + ", 9), kept " + kept, topped, x.club(club, 9));
                left -= topped;
            }
        }
    }

    private static void carriedOn() throws ReflectiveOperationException {
        CupPot x = lastRound(101, 0);
        Arrays.fill((int[]) field(field(x, "season"), "rounds"), 4);
        Check.due("close(1, 4)", 50, x.close(1, 4));
        Check.due("carried into ROUND 5", 1, x.pool(1, 5, 1));
        Check.due("is not kept", 0, x.cup(1, 11));
    }
}
