/**
 * Whether a call leaves all as it was: of two objects that were used alike one gets that call, too, and
 * then nothing that can be seen or done later tells them apart.
 */
final class Twins {
    interface Step {
        void on(CupPot x);
    }

    interface Call {
        long on(CupPot x);
    }

    /** Stands for NoSuchElementException among answers. */
    static final long THROWN = Long.MAX_VALUE;

    static final String SMALL_BOOK = "club 10 5 100;club 30 20 0;cup 60 30 10";
    static final String MIDWAY_BOOK = "club 10 20 100;club 30 5 50;club 0 7 0;club 4 4 1000;"
        + "cup 60 30 10 floor 400 neutral 1;cup 50 25 25 first 2 again 20 60 20 odd 2;way 0 0 1;way 1 0 3";

    /** No BOOK, but one on THE TAPE. */
    static final Step TOLD = x -> Check.tell(x, SMALL_BOOK);

    /** No BOOK, and a FAULT of the latest book(). */
    static final Step FAULTY = x -> {
        Check.tell(x, "club 1 2 345678");
        x.book();
        Check.tell(x, SMALL_BOOK);
    };

    /** A BOOK, and nothing more. */
    static final Step BOOKED = x -> {
        Check.tell(x, MIDWAY_BOOK);
        x.book();
        Check.tell(x, "tie 0 0 2 3");
        x.mark();
    };

    /** Two TIES of a ROUND that is CLOSED, one of another CUP; 8 acts; both kept; DEEDS on THE TAPE. */
    static final Step MIDWAY = x -> {
        Check.tell(x, MIDWAY_BOOK);
        x.book();
        x.tie(0, 0, 0, 1);
        x.keep(0);
        x.tie(0, 0, 2, 3);
        x.play(0, 1000, 2);
        x.play(0, 150, 0);
        x.play(1, 333, 1);
        x.keep(1);
        x.close(0, 0);
        x.tie(1, 0, 3, 0);
        x.play(2, 21, 2);
        Check.tell(x, "tie 0 1 0 3");
        // all sums are asked for, so that what comes later can't go by old ones unseen
        x.mark();
    };

    private static final Step[] LATER = {
        x -> { },
        x -> x.undo(),
        x -> undoAll(x, 3),
        x -> undoAll(x, 12),
        x -> x.again(0),
        x -> x.again(1),
        x -> x.book(),
        x -> x.deeds(),
        x -> {
            x.tie(0, 0, 0, 1);
            x.play(0, 64, 1);
            x.tie(0, 1, 0, 3);
            x.play(2, 1000, 0);
        }};

    private Twins() {
    }

    static void undoAll(CupPot x, int times) {
        for (int i = 0; i < times; i++) {
            x.undo();
        }
    }

    /** The call answers what is due, and changes nothing. */
    static void leavesAll(String what, long want, Step before, Call call) {
        alike(what + " leaves all", before, x -> {
            before.on(x);
            Check.due(what, want, call.on(x));
        });
    }

    /** As leavesAll, but THE TAPE is empty then, and the latest FAULT another one. */
    static void leavesAllButTape(String what, long want, Step before, Call call) {
        Step clean = x -> {
            x.end(0);
            x.deeds();
        };
        alike(what + " leaves all but THE TAPE", then(before, clean), x -> {
            before.on(x);
            Check.due(what, want, call.on(x));
            Check.due(what + ": THE TAPE is empty", 0, x.count(7));
            clean.on(x);
        });
    }

    static CupPot made(Step way) {
        CupPot x = new CupPot();
        way.on(x);
        return x;
    }

    static Step then(Step one, Step other) {
        return x -> {
            one.on(x);
            other.on(x);
        };
    }

    /** Both ways lead to objects that nothing tells apart. */
    static void alike(String what, Step one, Step other) {
        for (int later = 0; later < LATER.length; later++) {
            int pages = 1;
            for (int page = 0; page < pages; page++) {
                Picture first = taken(one, LATER[later], page);
                String unlike = first.unlike(taken(other, LATER[later], page));
                Check.due(what + ", later " + later + ": " + unlike, true, unlike.isEmpty());
                pages = first.pages();
            }
        }
    }

    private static Picture taken(Step way, Step later, int page) {
        return new Picture(made(then(way, later)), page);
    }
}
