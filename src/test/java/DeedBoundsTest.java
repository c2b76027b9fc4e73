/** The bounds of DEEDS: what a FAULT is, what is done, what not. Promise 5, Terms 1. */
public final class DeedBoundsTest {
    private static final int NONE = -1;
    private static final String BOOK = "club 0 0 0;club 0 0 0;club 0 0 0;club 0 0 0;cup 0 0 100;cup 0 0 100";

    public static void main(String[] args) {
        deedAfterDeed();
        eachDeed();
        winners();
        moreThanFiveDigits();
        outOfBoundsIsNoFault();
        noOtherFaults();
        whatCantStandThere();
        readAhead();
        upToTheFirstThatCantBe();
        upToTheFirstThatIsNone();
        theTapesAlone();
        asByHand();
        noneDoneIsNoAct();
        oneActTogether();
        noBook();
        tapeIsEmpty();
        asManyAsThereCanBe();
        Check.finish("DeedBoundsTest");
    }

    private static void due(String call, long want, long got) {
        Check.due(call, want, got);
    }

    private static void fault(String text, int fault) {
        Check.deedsFault(BOOK, text, fault);
    }

    private static CupPot done(String text, int deeds) {
        CupPot x = Check.withBook(BOOK);
        due("deeds(): " + text, deeds, Check.deeds(x, text));
        due("fault(0): " + text, 0, x.fault(0));
        due("fault(1): " + text, NONE, x.fault(1));
        return x;
    }

    private static void deedAfterDeed() {
        Check.says("DEEDS: DEED {; DEED}");
        done("tie 0 0 0 1", 1);
        done("tie 0 0 0 1;tie 0 0 2 3", 2);
        fault("|", 1);
        fault("  \n|", 1);
        fault("|;", 1);
        fault("|;tie 0 0 0 1", 1);
        fault("tie 0 0 0 1;|", 1);
        fault("tie 0 0 0 1; |", 1);
        fault("tie 0 0 0 1;|;tie 0 0 2 3", 1);
        fault("tie 0 0 0 1 |tie 0 0 2 3", 1);
        fault("tie 0 0 0 1|.tie 0 0 2 3", 1);
    }

    private static void eachDeed() {
        Check.says("tie C R H A | play T N W (GATE N; W: first, second or drawn) | close C R");
        CupPot x = done("tie 1 0 3 2;play 0 77 drawn;play 0 88 second;close 1 0", 4);
        int[] tie = {1, 0, 3, 2, 2, 2, 165};
        for (int what = 0; what < tie.length; what++) {
            due("tieOf(0, " + what + ")", tie[what], x.tieOf(0, what));
        }
        due("GATE", 77, x.game(0, 0, 0));
        due("CLOSED", 1, x.pool(1, 0, 4));
        due("a DEED of ROUND 1", 5, Check.deeds(x, "tie 0 0 0 1;tie 0 0 2 3;play 1 5 first;play 2 6 second;close 0 0"));
        due("a DEED of ROUND 1", 3, Check.deeds(x, "tie 0 1 3 0;play 3 7 second;close 0 1"));
        due("CLOSED", 1, x.pool(0, 1, 4));
        due("CLOSED in all", 3, x.count(5));
        String[] short1 = {"tie|", "tie 0|", "tie 0 0|", "tie 0 0 0|", "play|", "play 0|", "play 0 0|", "close|", "close 0|"};
        for (String text : short1) {
            fault(text, 1);
            fault(text + ";tie 0 0 0 1", 1);
        }
        String[] long1 = {"tie 0 0 0 1 |0", "play 0 0 first |0", "play 0 0 first |second", "close 0 0 |0", "close 0 0 |first"};
        for (String text : long1) {
            fault(text, 1);
        }
    }

    private static void winners() {
        Check.says("W: first, second or drawn");
        String[] words = {"first", "second", "drawn"};
        for (int won = 0; won < 3; won++) {
            CupPot x = done("tie 0 0 0 1;play 0 5 " + words[won], 2);
            due("game(0, 0, 9)", won, x.game(0, 0, 9));
            // the GATE may stand close to it
            due("game(0, 0, 9)", won, done("tie 0 0 0 1;play 0 5" + words[won], 2).game(0, 0, 9));
        }
        // behind each other in the same place of a text
        for (int before = 0; before < 3; before++) {
            for (int won = 0; won < 3; won++) {
                CupPot x = done("tie 0 0 0 1;tie 1 0 0 1", 2);
                due("deeds()", 1, Check.deeds(x, "play 0 5 " + words[before]));
                due("deeds()", 1, Check.deeds(x, "play 1 5 " + words[won]));
                due(words[won] + " behind " + words[before], won, x.game(1, 0, 9));
            }
        }
        for (String other : new String[] {"0", "1", "2", "firs", "firsts", "draw", "third", "First", "floor", "play", ";", "-"}) {
            fault("tie 0 0 0 1;play 0 5 |" + other, 1);
        }
    }

    private static void moreThanFiveDigits() {
        Check.says("2 a number of more than 5 digits");
        String[] texts = {"tie @ 0 0 1", "tie 0 @ 0 1", "tie 0 0 @ 1", "tie 0 0 1 @", "play @ 0 first", "play 0 @ first",
            "close @ 0", "close 0 @"};
        for (String text : texts) {
            for (String number : new String[] {"000000", "000001", "100000", "4294967296", "18446744073709551616"}) {
                fault(text.replace("@", "|" + number), 2);
                fault("tie 0 0 0 1;" + text.replace("@", "|" + number), 2);
            }
            // without a FAULT, whether it can be or not
            for (String number : new String[] {"0", "00000", "99999"}) {
                CupPot x = Check.withBook(BOOK);
                Check.deeds(x, text.replace("@", number));
                due("fault(0): " + text + ", " + number, 0, x.fault(0));
                due("fault(1): " + text + ", " + number, NONE, x.fault(1));
            }
        }
        due("five digits", 1, done("tie 00001 00000 00002 00003", 1).count(2));
        due("the greatest GATE", 99999, done("tie 0 0 0 1;play 0 99999 first", 2).game(0, 0, 0));
        due("the least GATE", 0, done("tie 0 0 0 1;play 0 0 first", 2).game(0, 0, 0));
    }

    private static void outOfBoundsIsNoFault() {
        Check.says("or (BOOK) out of its bounds");
        String[] texts = {"tie 2 0 0 1", "tie 0 6 0 1", "tie 0 0 4 1", "tie 0 0 0 4", "tie 99999 99999 99999 99999",
            "play 0 1 first", "play 99999 99999 drawn", "close 2 0", "close 0 6", "close 99999 99999"};
        for (String text : texts) {
            done(text, 0);
        }
    }

    private static void noOtherFaults() {
        Check.says("3 (BOOK) a 13th club, a 5th cup (at the word); 4 (BOOK, at the end)");
        // 31 TIES told, no TIE at all told: neither is a FAULT
        done("tie0 0 0 1" + ";tie0 0 0 1".repeat(30), 1);
        done("close 0 0", 0);
    }

    private static void whatCantStandThere() {
        Check.says("1 what can't stand there");
        String[] texts = {"|club 1 2 3", "|cup 1 1 98", "|way 0 0 0", "|first", "|0", "|ties 0 0 0 1", "|Tie 0 0 0 1", "|ti e 0 0 0 1",
            "tie |first 0 0 1", "tie 0 0 0 |-1", "tie 0|,0 0 1", "play 0 |first", "play |; 0 first", "close |all", "tie 0 0 0 1|\u00ff",
            "tie 0 0 0 1 |1234567", "|1234567"};
        for (String text : texts) {
            fault(text, 1);
        }
        fault("tie 0 0 0 |x 123456", 1);
        fault("tie 0 0 0 |123456 x", 2);
    }

    private static void readAhead() {
        Check.says("or is -1: how many. NONE: a FAULT");
        String[] texts = {"tie 1 1 0 1;", "tie 0 1 0 3;close 0", "tie 0 1 0 3;play 3 5 first;close 0 123456", "undo", ""};
        for (String text : texts) {
            for (Twins.Step before : new Twins.Step[] {Twins.TOLD, Twins.BOOKED, Twins.MIDWAY}) {
                Twins.leavesAllButTape("deeds() of " + text, NONE, before, x -> {
                    x.end(0);
                    return Check.deeds(x, text);
                });
            }
        }
    }

    private static void upToTheFirstThatCantBe() {
        Check.says("then they are done up to the first that can't be");
        CupPot x = done("tie 0 0 0 1;tie 0 0 0 2;tie 0 0 2 3;play 0 5 first", 1);
        due("ties", 1, x.count(2));
        due("games", 0, x.count(3));
        x = done("tie 0 0 0 1;play 0 5 drawn;play 0 6 drawn;play 0 7 first", 2);
        due("games", 1, x.count(3));
        x = done("tie 0 0 0 1;close 0 0;play 0 7 first", 1);
        due("games", 0, x.count(3));
        x = done("tie 0 0 0 1;play 0 7 first;close 0 0;close 0 0;tie 1 0 0 1", 3);
        due("ties", 1, x.count(2));
    }

    private static void upToTheFirstThatIsNone() {
        Check.says("or is -1: how many.");
        CupPot x = done("tie 0 0 0 1;tie 0 0 2 4;tie 0 0 2 3", 1);
        due("ties", 1, x.count(2));
        x = done("tie 0 0 0 1;play 1 5 first;play 0 5 first", 1);
        due("games", 0, x.count(3));
        x = done("tie 0 0 0 1;play 0 5 first;close 2 0;close 0 0", 2);
        due("nothing CLOSED", 0, x.count(5));
    }

    private static void theTapesAlone() {
        Check.says("THE TAPE (empty then) is DEEDS: all are read ahead; then they are done");
        // a longer text ahead of it, of which the rest could be done again
        CupPot x = done("tie 0 0 0 1;tie 1 0 0 1;tie 1 0 2 3;play 0 5 first;close 0 0", 5);
        x.undo();
        due("one DEED", 1, Check.deeds(x, "tie 0 0 0 1"));
        due("one TIE", 1, x.count(2));
        due("three DEEDS", 3, Check.deeds(x, "tie 1 0 2 3;tie 1 0 0 1;tie 0 0 2 3"));
        due("no GAME", 0, x.count(3));
        due("nothing CLOSED", 0, x.count(5));
        // one with a FAULT behind DEEDS that could be done
        due("a FAULT", NONE, Check.deeds(x, "play 0 5 first;close 0 0;x"));
        due("one DEED", 1, Check.deeds(x, "play 1 6 first"));
        due("one GAME", 1, x.count(3));
    }

    private static void asByHand() {
        Check.says("A pot of gate money: clubs and cups told in a text; ties, games and replays by hand, by texts");
        Twins.Step byHand = x -> {
            Check.tell(x, Twins.MIDWAY_BOOK);
            x.book();
            x.keep(0);
            x.tie(0, 0, 0, 1);
            x.play(0, 99999, 2);
            x.play(0, 0, 1);
            x.close(0, 0);
            x.keep(1);
        };
        Twins.Step byText = x -> {
            Check.tell(x, Twins.MIDWAY_BOOK);
            x.book();
            x.keep(0);
            Check.deeds(x, "tie 0 0 0 1;play 0 99999 drawn;play 0 0 second;close 0 0");
            x.keep(1);
        };
        // but for how much can be undone
        Twins.Step alike = x -> {
            for (int i = 0; i < 12; i++) {
                x.again(1);
            }
        };
        Twins.alike("by hand and by a text", Twins.then(byHand, alike), Twins.then(byText, alike));
    }

    private static void noneDoneIsNoAct() {
        Check.says("deeds with one done at least");
        for (String text : new String[] {"tie 0 0 0 1;tie 1 0 1 2", "play 99 1 first", "close 0 0;tie 1 0 1 2", "tie 0 1 0 1;tie 0 1 0 3"}) {
            Twins.leavesAllButTape("deeds() of " + text, 0, Twins.MIDWAY, x -> {
                x.end(0);
                return Check.deeds(x, text);
            });
        }
        CupPot x = done("close 0 0", 0);
        due("none done", 0, x.count(6));
        due("one done", 1, Check.deeds(x, "tie 0 0 0 1;tie 0 0 0 1"));
        due("an act", 1, x.count(6));
    }

    private static void oneActTogether() {
        Check.says("Acts (tie, play, close, deeds with one done at least, again)");
        Twins.leavesAllButTape("DEEDS undone", 8, Twins.MIDWAY, x -> {
            x.end(0);
            due("deeds()", 3, Check.deeds(x, "tie 0 1 0 3;play 3 5 first;close 0 1;close 0 2"));
            due("one act more", 9, x.count(6));
            return x.undo();
        });
    }

    private static void noBook() {
        Check.says("no BOOK (DEEDS are read all the same; nothing is done).");
        String[] texts = {"tie 0 0 0 1", "tie 0 0 0 |x", "tie 0 0 |123456 0", "|", "close 0 0;|"};
        int[] faults = {0, 1, 2, 1, 1};
        for (int i = 0; i < texts.length; i++) {
            CupPot x = new CupPot();
            due("deeds(): " + texts[i], NONE, Check.deeds(x, texts[i].replace("|", "")));
            due("fault(0): " + texts[i], faults[i], x.fault(0));
            due("fault(1): " + texts[i], texts[i].indexOf('|'), x.fault(1));
            due("signs: " + texts[i], 0, x.count(7));
            Check.tell(x, BOOK);
            due("a BOOK then", 6, x.book());
            due("nothing done", 0, x.count(2));
            due("no act", 0, x.count(6));
        }
        Twins.leavesAllButTape("deeds()", NONE, Twins.FAULTY, x -> {
            x.end(0);
            return Check.deeds(x, "tie 0 0 0 1");
        });
    }

    private static void tapeIsEmpty() {
        Check.says("THE TAPE (empty then) is DEEDS");
        for (String text : new String[] {"tie 0 0 0 1", "tie 0 0 0 1;close 0 0", "close 0 0", "oops", ""}) {
            CupPot x = Check.withBook(BOOK);
            Check.deeds(x, text);
            due("signs: " + text, 0, x.count(7));
            due("end(1): " + text, 0, x.end(1) ? 1 : 0);
        }
    }

    private static void asManyAsThereCanBe() {
        Check.says("how many.");
        // 66 DEEDS of 8 signs each and their 65 ; are 593 signs; none is shorter
        String close = "close0 0";
        done(close + (";" + close).repeat(65), 0);
        fault(close + (";" + close).repeat(65) + ";|", 1);
        fault(close + (";" + close).repeat(65) + ";close0|", 1);
        fault(close + (";" + close).repeat(65) + ";tie0 0|", 1);
        String clubs = "club 0 0 0;".repeat(12);
        CupPot x = Check.withBook(clubs + "cup 0 0 100 replays 0;cup 0 0 100;cup 0 0 100;cup 0 0 100");
        StringBuilder text = new StringBuilder();
        for (int i = 0; i < 24; i++) {
            text.append(i == 0 ? "" : ";").append("tie").append(i / 6).append(" 0 ").append(i % 6).append(' ').append(11 - i % 6);
        }
        for (int i = 0; i < 23; i++) {
            text.append(";play").append(i).append(" 0first");
        }
        due("signs", 583, text.length());
        due("all 47 are done", 47, Check.deeds(x, text.toString()));
        due("one act", 1, x.count(6));
        due("24 TIES", 24, x.count(2));
        due("23 GAMES", 23, x.count(3));
    }
}
