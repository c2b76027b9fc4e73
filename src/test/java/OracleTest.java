import java.util.NoSuchElementException;
import java.util.Random;

/** Runs by a seeded source of numbers: each answer of CupPot is held against the Oracle's. */
public final class OracleTest {
    private static final int RUNS = 700;
    private static final int CALLS = 512;
    private static final int[] ODD_NUMBERS = {-1, -2, Integer.MIN_VALUE, Integer.MAX_VALUE, 1 << 30, 31, 32, 33,
        12, 13, 4, 6, 100000, 99999};

    private final Random random;
    private final int run;
    private final CupPot pot = new CupPot();
    private final Oracle oracle = new Oracle();
    private int calls = 0;
    private int dearCalls = 0;

    private OracleTest(int run) {
        this.run = run;
        random = new Random(run);
    }

    public static void main(String[] args) {
        for (int run = 0; run < RUNS; run++) {
            new OracleTest(run).goOn();
        }
        Check.finish("OracleTest");
    }

    private void due(String call, long want, long got) {
        calls++;
        Check.due("run " + run + ", call " + calls + ": " + call, want, got);
    }

    private void due(String call, boolean want, boolean got) {
        due(call, want ? 1 : 0, got ? 1 : 0);
    }

    private int below(int n) {
        return random.nextInt(n);
    }

    private boolean chance(int percent) {
        return below(100) < percent;
    }

    /** A number of 0 .. n - 1, now and then one that may be out of bounds. */
    private int upTo(int n) {
        if (chance(4)) {
            return ODD_NUMBERS[below(ODD_NUMBERS.length)];
        }
        return chance(4) ? n : below(Math.max(1, n));
    }

    private int gate() {
        if (chance(10)) {
            return ODD_NUMBERS[below(ODD_NUMBERS.length)];
        }
        return chance(50) ? below(300) : chance(50) ? below(5000) : below(100000);
    }

    private void goOn() {
        for (int i = 0; i < 5 && chance(30); i++) {
            query();
        }
        tell(bookText());
        due("book()", oracle.book(), pot.book());
        faults();
        while (calls < CALLS) {
            int dice = below(100);
            if (dice < 40) {
                act();
            } else if (dice < 43) {
                text();
            } else {
                query();
            }
        }
    }

    private void faults() {
        due("fault(0)", oracle.fault(0), pot.fault(0));
        due("fault(1)", oracle.fault(1), pot.fault(1));
    }

    // ---- texts

    private void tell(String text) {
        for (int i = 0; i < text.length(); i += 4) {
            int v = 0;
            for (int j = i; j < i + 4; j++) {
                v = v << 8 | (j < text.length() ? text.charAt(j) : ' ');
            }
            due("sign(" + v + ")", oracle.sign(v), pot.sign(v));
        }
        if (text.length() % 4 != 0) {
            due("end(" + text.length() + ")", oracle.end(text.length()), pot.end(text.length()));
        }
    }

    private void text() {
        int dice = below(10);
        if (dice == 0) {
            tell(marred(bookText()));
            due("book()", oracle.book(), pot.book());
        } else if (dice < 8) {
            String t = deedText();
            tell(chance(30) ? marred(t) : t);
            due("deeds()", oracle.deeds(), pot.deeds());
        } else {
            int v = random.nextInt();
            due("sign(" + v + ")", oracle.sign(v), pot.sign(v));
            int n = upTo(4);
            due("end(" + n + ")", oracle.end(n), pot.end(n));
            due("deeds()", oracle.deeds(), pot.deeds());
        }
        faults();
    }

    private String blank() {
        return chance(80) ? " " : chance(50) ? "\n" : " \n ";
    }

    private String parts() {
        int a = below(101);
        int b = below(101 - a);
        if (chance(20)) {
            a = 10 * below(6);
            b = 10 * below(5);
        }
        return blank() + a + blank() + b + blank() + (100 - a - b);
    }

    private String bookText() {
        int clubs = 2 + below(11);
        int cups = 1 + below(4);
        int size = chance(50) ? 20 : chance(50) ? 500 : 10000;
        StringBuilder text = new StringBuilder();
        for (int i = 0; i < clubs; i++) {
            text.append("club").append(below(size)).append(blank()).append(chance(20) ? 0 : below(size));
            text.append(blank()).append(chance(50) ? below(size * 3) : below(100000)).append(';');
        }
        for (int i = 0; i < cups && text.length() < 480; i++) {
            text.append(i == 0 ? "" : ";").append("cup").append(parts()).append(options(size));
        }
        while (chance(80) && text.length() < 580) {
            text.append(";way ").append(below(chance(90) ? 1 : cups)).append(' ').append(below(6)).append(' ').append(below(4));
        }
        return text.toString();
    }

    private String options(int size) {
        StringBuilder text = new StringBuilder();
        text.append(chance(60) ? " first " + below(3) : "");
        text.append(chance(50) ? blank() + "floor" + blank() + below(chance(90) ? size : 100000) : "");
        text.append(chance(60) ? " replays " + below(4) : "");
        text.append(chance(40) ? " again" + parts() : "");
        text.append(chance(40) ? " neutral " + (1 + below(6)) : "");
        text.append(chance(60) ? " odd " + below(3) : "");
        return text.toString();
    }

    private String deedText() {
        StringBuilder text = new StringBuilder();
        int deeds = 1 + below(8);
        for (int i = 0; i < deeds; i++) {
            text.append(i == 0 ? "" : ";").append(blank());
            int dice = below(5);
            if (dice < 2) {
                text.append("tie ").append(below(4)).append(' ').append(below(2)).append(' ');
                text.append(below(12)).append(blank()).append(below(12));
            } else if (dice < 4) {
                String[] won = {"first", "second", "drawn"};
                text.append("play ").append(below(oracle.count(2) + 2)).append(' ').append(below(3000)).append(won[below(3)]);
            } else {
                text.append("close ").append(below(2)).append(' ').append(below(4));
            }
        }
        return text.toString();
    }

    private String marred(String text) {
        StringBuilder t = new StringBuilder(text);
        String[] bits = {";", " ", "0", "9", "100000", "club", "cup", "way", "odd", "A", "\u00e9", "\t", "first", "-", "\n"};
        for (int i = 0; i < 1 + below(2); i++) {
            int at = below(t.length() + 1);
            if (chance(50) && at < t.length()) {
                t.deleteCharAt(at);
            } else {
                t.insert(at, bits[below(bits.length)]);
            }
        }
        return t.length() > 600 ? t.substring(0, 600) : t.toString();
    }

    // ---- acts

    private void act() {
        int cup = upTo(oracle.count(1));
        int dice = below(100);
        if (dice < 30) {
            likelyTie(cup);
        } else if (dice < 75) {
            int tie = openTie();
            int gate = gate();
            int won = upTo(3);
            due("play(" + tie + ", " + gate + ", " + won + ")", oracle.play(tie, gate, won), pot.play(tie, gate, won));
        } else if (dice < 92) {
            int round = lastRound(cup);
            due("close(" + cup + ", " + round + ")", oracle.close(cup, round), pot.close(cup, round));
        } else if (dice < 95) {
            due("undo()", oracle.undo(), pot.undo());
        } else if (dice < 98) {
            int k = upTo(2);
            due("keep(" + k + ")", oracle.keep(k), pot.keep(k));
        } else {
            int k = upTo(2);
            due("again(" + k + ")", oracle.again(k), pot.again(k));
        }
    }

    private int lastRound(int cup) {
        if (chance(10)) {
            return upTo(6);
        }
        int round = 0;
        for (int r = 0; r < 6; r++) {
            round = oracle.pool(cup, r, 6) > 0 ? r : round;
        }
        return round;
    }

    private int openTie() {
        for (int tie = 0; tie < oracle.count(2) && chance(92); tie++) {
            if (oracle.tieOf(tie, 5) == -2) {
                return tie;
            }
        }
        return upTo(oracle.count(2));
    }

    private void likelyTie(int cup) {
        int clubs = oracle.count(0);
        int round = chance(10) ? upTo(6) : 0;
        for (int r = 0; r < 5 && chance(95); r++) {
            round = oracle.pool(cup, r, 4) == 1 ? r + 1 : round;
        }
        int first = upTo(clubs);
        int second = upTo(clubs);
        // winners of the ROUND ahead are searched for, lest late ROUNDS never come
        for (int i = 0; i < 60 && round > 0; i++) {
            int in = oracle.in(cup);
            if (first < 0 || second < 0 || first > 30 || second > 30) {
                break;
            }
            first = (in >> first & 1) == 1 ? first : below(clubs);
            second = (in >> second & 1) == 1 && second != first ? second : below(clubs);
        }
        due("tie(" + cup + ", " + round + ", " + first + ", " + second + ")",
            oracle.tie(cup, round, first, second), pot.tie(cup, round, first, second));
    }

    // ---- what is asked

    private void query() {
        int a = upTo(oracle.count(0));
        int cup = upTo(oracle.count(1));
        int tie = upTo(oracle.count(2));
        int gate = gate();
        switch (below(24)) {
            case 0: {
                int what = upTo(12);
                due("club(" + a + ", " + what + ")", clubBy(a, what, false), clubBy(a, what, true));
                break;
            }
            case 1: {
                int what = upTo(14);
                due("cup(" + cup + ", " + what + ")", oracle.cup(cup, what), pot.cup(cup, what));
                break;
            }
            case 2: {
                int what = upTo(10);
                due("tieOf(" + tie + ", " + what + ")", oracle.tieOf(tie, what), pot.tieOf(tie, what));
                break;
            }
            case 3: {
                int what = upTo(10);
                int g = upTo(3);
                due("game(" + tie + ", " + g + ", " + what + ")", oracle.game(tie, g, what), pot.game(tie, g, what));
                break;
            }
            case 4:
            case 5: {
                int what = upTo(7);
                int r = upTo(6);
                due("pool(" + cup + ", " + r + ", " + what + ")", oracle.pool(cup, r, what), pot.pool(cup, r, what));
                break;
            }
            case 6: {
                int what = upTo(6);
                due("all(" + what + ")", oracle.all(what), pot.all(what));
                break;
            }
            case 7:
                due("balance(" + a + ")", oracle.balance(a), pot.balance(a));
                break;
            case 8: {
                int what = upTo(2);
                if (dearCalls++ < 12) {
                    due("fewest(" + what + ")", oracle.fewest(what), pot.fewest(what));
                }
                break;
            }
            case 9: {
                int what = upTo(3);
                int i = chance(20) ? -1 : upTo(8);
                due("pays(" + i + ", " + what + ")", oracle.pays(i, what), pot.pays(i, what));
                break;
            }
            case 10:
            case 11:
                due("mark()", oracle.mark(), pot.mark());
                break;
            default:
                otherQuery(a, cup, tie, gate);
        }
    }

    private void otherQuery(int a, int cup, int tie, int gate) {
        int what = upTo(3);
        switch (below(13)) {
            case 0:
                due("met(" + a + ")", oracle.met(a), pot.met(a));
                break;
            case 1: {
                int b = upTo(oracle.count(0));
                due("chain(" + a + ", " + b + ")", oracle.chain(a, b), pot.chain(a, b));
                break;
            }
            case 2:
                due("in(" + cup + ")", oracle.in(cup), pot.in(cup));
                break;
            case 3:
                due("ranked(" + a + ")", oracle.ranked(a), pot.ranked(a));
                break;
            case 4:
                due("bands()", oracle.bands(), pot.bands());
                break;
            case 5:
                due("brings(" + tie + ", " + gate + ", " + what + ")", oracle.brings(tie, gate, what), pot.brings(tie, gate, what));
                break;
            case 6:
                due("least(" + tie + ", " + gate + ", " + what + ")", oracle.least(tie, gate, what), pot.least(tie, gate, what));
                break;
            case 7:
                due("byCup(" + tie + ", " + cup + ", " + what + ")", oracle.byCup(tie, cup, what), pot.byCup(tie, cup, what));
                break;
            case 8:
                due("fairest(" + tie + ")", oracle.fairest(tie), pot.fairest(tie));
                break;
            case 9:
                due("tempt(" + tie + ", " + gate + ", " + what + ")", oracle.tempt(tie, gate, what), pot.tempt(tie, gate, what));
                break;
            case 10: {
                int g = upTo(2);
                due("ifGate(" + tie + ", " + g + ", " + gate + ")", oracle.ifGate(tie, g, gate), pot.ifGate(tie, g, gate));
                break;
            }
            case 11: {
                int w = upTo(2);
                due("fault(" + w + ")", oracle.fault(w), pot.fault(w));
                break;
            }
            default: {
                int w = upTo(8);
                due("count(" + w + ")", oracle.count(w), pot.count(w));
            }
        }
    }

    /** An answer beyond all ints stands for the exception. */
    private long clubBy(int club, int what, boolean byPot) {
        try {
            return byPot ? pot.club(club, what) : oracle.club(club, what);
        } catch (NoSuchElementException e) {
            return Long.MIN_VALUE;
        }
    }
}
