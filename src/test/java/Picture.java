import java.util.ArrayList;
import java.util.List;
import java.util.NoSuchElementException;

/**
 * All that an object answers, without acts: one row a call. An object is promised for 512 calls alone,
 * so a picture is taken by pages, each of an object of its own.
 */
final class Picture {
    static final int PAGE = 300;

    private final CupPot x;
    private final int from;
    private final List<String> calls = new ArrayList<>();
    private final List<int[]> arguments = new ArrayList<>();
    private final List<Long> answers = new ArrayList<>();
    private int asked = 0;

    private interface Look {
        long at(int a, int b, int c);
    }

    Picture(CupPot x, int page) {
        this.x = x;
        from = page * PAGE;
        int clubs = x.count(0);
        int cups = x.count(1);
        int ties = x.count(2);
        lookAtAll(clubs);
        lookAtClubs(clubs);
        for (int cup = 0; cup < cups; cup++) {
            lookAtCup(cup);
        }
        for (int tie = 0; tie < ties; tie++) {
            lookAtTie(tie, cups);
        }
    }

    int pages() {
        return (asked + PAGE - 1) / PAGE;
    }

    private void ask(String call, int a, int b, int c, Look look) {
        if (asked >= from && asked < from + PAGE) {
            calls.add(call);
            arguments.add(new int[] {a, b, c});
            answers.add(look.at(a, b, c));
        }
        asked++;
    }

    private void row(String call, int a, int whats, Look look) {
        for (int what = 0; what < whats; what++) {
            ask(call, a, what, 0, look);
        }
    }

    private void lookAtAll(int clubs) {
        row("count(what)", 0, 8, (a, what, c) -> x.count(what));
        row("fault(what)", 0, 2, (a, what, c) -> x.fault(what));
        row("all(what)", 0, 6, (a, what, c) -> x.all(what));
        row("fewest(what)", 0, 2, (a, what, c) -> x.fewest(what));
        ask("mark()", 0, 0, 0, (a, b, c) -> x.mark());
        ask("bands()", 0, 0, 0, (a, b, c) -> x.bands());
        ask("pays(NONE, 0)", 0, 0, 0, (a, b, c) -> x.pays(CupPot.NONE, 0));
        for (int who = 0; who <= clubs; who++) {
            ask("balance(who)", who, 0, 0, (a, b, c) -> x.balance(a));
            row("pays(i, what)", who, 3, (i, what, c) -> x.pays(i, what));
        }
    }

    private void lookAtClubs(int clubs) {
        for (int club = 0; club < clubs; club++) {
            row("club(club, what)", club, 12, (a, what, c) -> club(x, a, what));
            row("chain(from, to)", club, clubs, (a, to, c) -> x.chain(a, to));
            ask("met(club)", club, 0, 0, (a, b, c) -> x.met(a));
            ask("ranked(i)", club, 0, 0, (a, b, c) -> x.ranked(a));
        }
    }

    private void lookAtCup(int cup) {
        row("cup(cup, what)", cup, 14, (a, what, c) -> x.cup(a, what));
        ask("in(cup)", cup, 0, 0, (a, b, c) -> x.in(a));
        for (int round = 0; round < 6; round++) {
            for (int what = 0; what < 7; what++) {
                ask("pool(cup, round, what)", cup, round, what, (a, b, c) -> x.pool(a, b, c));
            }
        }
    }

    private void lookAtTie(int tie, int cups) {
        row("tieOf(tie, what)", tie, 10, (a, what, c) -> x.tieOf(a, what));
        for (int game = 0; game < x.tieOf(tie, 4); game++) {
            for (int what = 0; what < 10; what++) {
                ask("game(tie, game, what)", tie, game, what, (a, b, c) -> x.game(a, b, c));
            }
            ask("ifGate(tie, game, 500)", tie, game, 0, (a, b, c) -> x.ifGate(a, b, 500));
        }
        row("brings(tie, 777, what)", tie, 3, (a, what, c) -> x.brings(a, 777, what));
        row("least(tie, 99, what)", tie, 3, (a, what, c) -> x.least(a, 99, what));
        row("tempt(tie, 777, what)", tie, 2, (a, what, c) -> x.tempt(a, 777, what));
        row("byCup(tie, cup, 0)", tie, cups, (a, cup, c) -> x.byCup(a, cup, 0));
        ask("fairest(tie)", tie, 0, 0, (a, b, c) -> x.fairest(a));
    }

    static long club(CupPot x, int club, int what) {
        try {
            return x.club(club, what);
        } catch (NoSuchElementException e) {
            return Twins.THROWN;
        }
    }

    /** The first row in which two pictures are not alike; an empty text if there is none. */
    String unlike(Picture other) {
        for (int i = 0; i < Math.min(answers.size(), other.answers.size()); i++) {
            if (!answers.get(i).equals(other.answers.get(i))) {
                int[] a = arguments.get(i);
                return calls.get(i) + " of " + a[0] + ", " + a[1] + ", " + a[2] + " answers "
                    + answers.get(i) + " and " + other.answers.get(i);
            }
        }
        return asked == other.asked ? "" : "not the same calls can be made";
    }
}
