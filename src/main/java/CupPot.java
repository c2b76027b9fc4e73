import java.util.NoSuchElementException;

/**
 * A pot of gate money. Every row is made once, by the constructor, and used again by each call:
 * no call makes an object.
 */
public final class CupPot {
    public static final int NONE = -1;

    private static final int NOT_NOW = -2;
    private static final int NO_AMOUNT = Integer.MIN_VALUE;

    private static final int MOST_SIGNS = 600;
    private static final int MOST_CLUBS = 12;
    private static final int MOST_CUPS = 4;
    private static final int ROUNDS = 6;
    private static final int MOST_TIES = 30;
    private static final int MOST_GAMES = 4;
    private static final int MOST_UNDONE = 12;
    private static final int MOST_KEPT = 2;
    private static final int MOST_GATE = 99999;
    private static final int MOST_DUE = 9999;
    // the shortest DEED with its ; has 9 signs, so THE TAPE can't hold more
    private static final int MOST_DEEDS = 67;
    private static final int DEED_FIELDS = 5;

    private static final int FIRST_WON = 0;
    private static final int SECOND_WON = 1;
    private static final int DRAWN = 2;

    // what brings(), least(), byCup(), tempt() ask for
    private static final int OF_FIRST = 0;
    private static final int OF_SECOND = 1;
    private static final int OF_POOL = 2;

    // FAULTS
    private static final int MISPLACED = 1;
    private static final int BAD_NUMBER = 2;
    private static final int TOO_MANY = 3;
    private static final int TOO_FEW = 4;

    // kinds of TOKENS
    private static final int END = 0;
    private static final int BLANK = 1;
    private static final int WORD = 2;
    private static final int NUMBER = 3;
    private static final int SINGLE = 4;

    // places in rows, numbered as club() numbers them
    private static final int COST = 0;
    private static final int FARE = 1;
    private static final int GUARD = 2;
    private static final int HAS = 3;
    private static final int EXPENSES = 4;
    private static final int AS_HOST = 5;
    private static final int AS_GUEST = 6;
    private static final int OF_POOLS = 7;
    private static final int LACKS = 8;
    private static final int TOPPED = 9;
    private static final int GAMES = 10;
    private static final int WINS = 11;
    private static final int CLUB_FIELDS = 12;

    // as cup() numbers them
    private static final int PARTS = 0;
    private static final int FIRST = 3;
    private static final int FLOOR = 4;
    private static final int REPLAYS = 5;
    private static final int REPLAY_PARTS = 6;
    private static final int NEUTRAL = 9;
    private static final int ODD = 10;
    private static final int TOLD_OF_CUP = 11;
    private static final int KEPT_OF_CUP = 0;
    private static final int GATES_OF_CUP = 1;
    private static final int TIES_OF_CUP = 2;
    private static final int SUMS_OF_CUP = 3;

    // as pool() numbers them
    private static final int IN_POOL = 0;
    private static final int CARRIED = 1;
    private static final int EACH = 2;
    private static final int TAKERS = 3;
    private static final int CLOSED = 4;
    private static final int WAY = 5;
    private static final int TIES_OF_ROUND = 6;
    private static final int POOL_FIELDS = 7;

    // as all() numbers them
    private static final int ALL_GATES = 0;
    private static final int ALL_EXPENSES = 1;
    private static final int ALL_SHARES = 2;
    private static final int ALL_POOLED = 3;
    private static final int ALL_GOT = 4;
    private static final int ALL_KEPT = 5;
    private static final int ALL_FIELDS = 6;

    private static final int TO_WINNERS = 0;
    private static final int TO_EACH_CLUB = 1;
    private static final int TO_LOSERS = 2;
    private static final int TO_NOBODY = 3;

    private static final int TIE_DEED = 0;
    private static final int PLAY_DEED = 1;
    private static final int CLOSE_DEED = 2;

    private final Reader reader = new Reader();
    private final Rules rules = new Rules();
    private final BookReader bookReader = new BookReader(reader);
    private final DeedReader deedReader = new DeedReader(reader);
    private final Season season = new Season();
    private final History history = new History();
    private final Season[] keptSeasons = {new Season(), new Season()};
    private final boolean[] isKept = new boolean[MOST_KEPT];
    private final Split split = new Split();
    private final Ledger ledger = new Ledger();
    private final Settling settling = new Settling();

    public CupPot() {
    }

    public int sign(int v) {
        return reader.append(v) ? reader.size : NONE;
    }

    public boolean end(int n) {
        if (n < 0 || n > reader.size) {
            return false;
        }
        reader.size = n;
        return true;
    }

    public int book() {
        boolean whole = bookReader.readBook();
        reader.size = 0;
        if (!whole) {
            return NONE;
        }
        rules.copyFrom(bookReader.draft);
        season.clear();
        history.clear();
        for (int k = 0; k < MOST_KEPT; k++) {
            isKept[k] = false;
        }
        ledger.fresh = false;
        return bookReader.lines;
    }

    public int deeds() {
        boolean whole = deedReader.readDeeds();
        reader.size = 0;
        if (!whole || !hasBook()) {
            return NONE;
        }
        int done = 0;
        while (done < deedReader.deeds && deedCode(done) >= 0) {
            // all that one deeds() does is one act
            if (done == 0) {
                remember();
            }
            carryOut(done);
            done++;
        }
        return done;
    }

    public int fault(int what) {
        if (what == 0) {
            return reader.fault;
        }
        return what == 1 ? reader.place : NONE;
    }

    // ---- acts

    public int tie(int cup, int round, int first, int second) {
        int code = tieCode(cup, round, first, second);
        if (code < 0) {
            return code;
        }
        remember();
        season.addTie(cup, round, first, second);
        return season.ties - 1;
    }

    public int play(int tie, int gate, int won) {
        int code = playCode(tie, gate, won);
        if (code < 0) {
            return code;
        }
        remember();
        season.addGame(tie, gate, won);
        return season.games[tie];
    }

    public int close(int cup, int round) {
        int code = closeCode(cup, round);
        if (code < 0) {
            return code;
        }
        remember();
        season.closeRound(cup, round);
        reckon();
        return ledger.poolSums[cup * ROUNDS + round][EACH];
    }

    public int undo() {
        if (!hasBook()) {
            return NONE;
        }
        if (history.size == 0) {
            return NOT_NOW;
        }
        history.takeBack(season);
        ledger.fresh = false;
        return history.size;
    }

    public boolean keep(int k) {
        if (!hasBook() || k < 0 || k >= MOST_KEPT) {
            return false;
        }
        keptSeasons[k].copyFrom(season);
        isKept[k] = true;
        return true;
    }

    public boolean again(int k) {
        if (k < 0 || k >= MOST_KEPT || !isKept[k]) {
            return false;
        }
        remember();
        season.copyFrom(keptSeasons[k]);
        return true;
    }

    // ---- what there is

    public int club(int club, int what) throws NoSuchElementException {
        if (!isClub(club) || what < 0 || what >= CLUB_FIELDS) {
            throw new NoSuchElementException("no such club, or no such thing of a club");
        }
        if (what <= GUARD) {
            return rules.clubs[club][what];
        }
        reckon();
        return ledger.clubSums[club][what];
    }

    public int cup(int cup, int what) {
        if (!isCup(cup) || what < 0 || what >= TOLD_OF_CUP + SUMS_OF_CUP) {
            return NONE;
        }
        if (what < TOLD_OF_CUP) {
            return rules.cups[cup][what];
        }
        reckon();
        return ledger.cupSums[cup][what - TOLD_OF_CUP];
    }

    public int tieOf(int tie, int what) {
        if (!isTie(tie)) {
            return NONE;
        }
        switch (what) {
            case 0:
                return season.cups[tie];
            case 1:
                return season.rounds[tie];
            case 2:
                return season.firsts[tie];
            case 3:
                return season.seconds[tie];
            case 4:
                return season.games[tie];
            case 5:
                return season.winnerOf(tie);
            case 6:
                return season.gatesOf(tie);
            case 7:
                return hadOfTie(tie, season.cups[tie], OF_FIRST);
            case 8:
                return hadOfTie(tie, season.cups[tie], OF_SECOND);
            case 9:
                return hadOfTie(tie, season.cups[tie], OF_POOL);
            default:
                return NONE;
        }
    }

    public int game(int tie, int game, int what) {
        if (!isGame(tie, game)) {
            return NONE;
        }
        int gate = season.gates[tie * MOST_GAMES + game];
        splitGame(tie, season.cups[tie], game, gate);
        switch (what) {
            case 0:
                return gate;
            case 1:
                return season.hostOf(tie, game);
            case 2:
                return split.hostPaid;
            case 3:
                return split.guestPaid;
            case 4:
                return split.rest;
            case 5:
                return split.hostShare;
            case 6:
                return split.guestShare;
            case 7:
                return split.poolShare;
            case 8:
                return split.lacked;
            case 9:
                return season.won[tie * MOST_GAMES + game];
            default:
                return NONE;
        }
    }

    public int pool(int cup, int round, int what) {
        if (!isPool(cup, round) || what < 0 || what >= POOL_FIELDS) {
            return NONE;
        }
        reckon();
        return ledger.poolSums[cup * ROUNDS + round][what];
    }

    public int all(int what) {
        if (!hasBook() || what < 0 || what >= ALL_FIELDS) {
            return NONE;
        }
        reckon();
        return ledger.totals[what];
    }

    // ---- who holds what

    public int balance(int who) {
        if (!hasBook() || who < 0 || who > rules.clubCount) {
            return NO_AMOUNT;
        }
        reckon();
        return ledger.balances[who];
    }

    public int fewest(int what) {
        if (!hasBook() || what < 0 || what > 1) {
            return NONE;
        }
        reckon();
        settling.gather(ledger.balances, rules.clubCount + 1);
        int groups = settling.mostGroups();
        return what == 1 ? groups : settling.uneven - groups;
    }

    public int pays(int i, int what) {
        if (!hasBook() || what < 0 || what > 2 || i < NONE) {
            return NONE;
        }
        reckon();
        settling.listPayments(ledger.balances, rules.clubCount + 1);
        if (i == NONE) {
            return settling.payments;
        }
        if (i >= settling.payments) {
            return NOT_NOW;
        }
        if (what == 0) {
            return settling.payers[i];
        }
        return what == 1 ? settling.payees[i] : settling.amounts[i];
    }

    public long mark() {
        if (!hasBook()) {
            return 0;
        }
        reckon();
        long h = 17;
        for (int who = 0; who <= rules.clubCount; who++) {
            h = h * 31 + ledger.balances[who];
            h = h ^ (h >>> 13);
        }
        return h;
    }

    // ---- clubs among each other

    public int met(int club) {
        return isClub(club) ? season.metBy(1 << club) : NONE;
    }

    public int chain(int from, int to) {
        if (!isClub(from) || !isClub(to)) {
            return NONE;
        }
        int reached = 1 << from;
        for (int steps = 0; steps < MOST_CLUBS; steps++) {
            if ((reached >> to & 1) == 1) {
                return steps;
            }
            reached |= season.metBy(reached);
        }
        return NOT_NOW;
    }

    public int in(int cup) {
        return isCup(cup) ? season.stillIn(cup) : NONE;
    }

    public int ranked(int i) {
        if (i < 0 || i >= rules.clubCount) {
            return NONE;
        }
        reckon();
        int found = NONE;
        for (int club = 0; club < rules.clubCount; club++) {
            if (ledger.rankOf(club, rules.clubCount) == i) {
                found = club;
            }
        }
        return found;
    }

    public int bands() {
        if (!hasBook()) {
            return NONE;
        }
        int seen = 0;
        int groups = 0;
        for (int club = 0; club < rules.clubCount; club++) {
            if ((seen >> club & 1) == 0) {
                groups++;
                seen |= season.linkedWith(club);
            }
        }
        return groups;
    }

    // ---- what if

    public int brings(int tie, int gate, int what) {
        if (!isTie(tie) || !isGate(gate) || what < OF_FIRST || what > OF_POOL) {
            return NONE;
        }
        return hadOfGame(tie, season.games[tie], gate, what);
    }

    public int least(int tie, int n, int what) {
        if (!isTie(tie) || n < 0 || what < OF_FIRST || what > OF_POOL) {
            return NONE;
        }
        splitGame(tie, season.cups[tie], season.games[tie], 0);
        int due = split.hostDue + split.guestDue;
        if (hadOfGame(tie, season.games[tie], due, what) >= n) {
            return leastWithoutRest(tie, n, what, due);
        }
        return leastWithRest(tie, n, what, due);
    }

    public int byCup(int tie, int cup, int what) {
        if (!isTie(tie) || !isCup(cup) || what < OF_FIRST || what > OF_POOL) {
            return NONE;
        }
        return hadOfTie(tie, cup, what);
    }

    public int fairest(int tie) {
        if (!isTie(tie)) {
            return NONE;
        }
        int fairest = 0;
        int nearest = Integer.MAX_VALUE;
        for (int cup = 0; cup < rules.cupCount; cup++) {
            int apart = Math.abs(hadOfTie(tie, cup, OF_FIRST) - hadOfTie(tie, cup, OF_SECOND));
            if (apart < nearest) {
                nearest = apart;
                fairest = cup;
            }
        }
        return fairest;
    }

    public int tempt(int tie, int gate, int what) {
        if (!isTie(tie) || !isGate(gate) || what < OF_FIRST || what > OF_SECOND) {
            return NO_AMOUNT;
        }
        int next = season.games[tie];
        int half = gate / 2;
        int ofTwo = hadOfGame(tie, next, half, what) + hadOfGame(tie, next + 1, gate - half, what);
        return ofTwo - hadOfGame(tie, next, gate, what);
    }

    public int ifGate(int tie, int game, int gate) {
        if (!isGame(tie, game) || !isGate(gate)) {
            return NONE;
        }
        int at = tie * MOST_GAMES + game;
        int real = season.gates[at];
        season.gates[at] = gate;
        ledger.reckonAll(rules, season, split);
        int lacks = ledger.allLacks(rules.clubCount);
        season.gates[at] = real;
        ledger.fresh = false;
        return lacks;
    }

    public int count(int what) {
        switch (what) {
            case 0:
                return rules.clubCount;
            case 1:
                return rules.cupCount;
            case 2:
                return season.ties;
            case 3:
                return season.allGames();
            case 4:
                return season.decidedTies();
            case 5:
                return Integer.bitCount(season.closed);
            case 6:
                return history.size;
            case 7:
                return reader.size;
            default:
                return NONE;
        }
    }

    private boolean hasBook() {
        return rules.clubCount > 0;
    }

    private boolean isClub(int club) {
        return club >= 0 && club < rules.clubCount;
    }

    private boolean isCup(int cup) {
        return cup >= 0 && cup < rules.cupCount;
    }

    private boolean isPool(int cup, int round) {
        return isCup(cup) && round >= 0 && round < ROUNDS;
    }

    private boolean isTie(int tie) {
        return tie >= 0 && tie < season.ties;
    }

    private boolean isGame(int tie, int game) {
        return isTie(tie) && game >= 0 && game < season.games[tie];
    }

    private static boolean isGate(int gate) {
        return gate >= 0 && gate <= MOST_GATE;
    }

    /** Whether a TIE can be: 0, or the code that tie() answers. */
    private int tieCode(int cup, int round, int first, int second) {
        if (!isPool(cup, round) || !isClub(first) || !isClub(second)) {
            return NONE;
        }
        if (first == second || season.ties >= MOST_TIES || season.isClosed(cup, round)) {
            return NOT_NOW;
        }
        if (season.isIn(cup, round, first) || season.isIn(cup, round, second)) {
            return NOT_NOW;
        }
        if (round == 0) {
            return 0;
        }
        boolean bothThrough = season.isClosed(cup, round - 1)
            && season.hasWonIn(cup, round - 1, first) && season.hasWonIn(cup, round - 1, second);
        return bothThrough ? 0 : NOT_NOW;
    }

    private int playCode(int tie, int gate, int won) {
        if (!isTie(tie) || !isGate(gate) || won < FIRST_WON || won > DRAWN) {
            return NONE;
        }
        if (season.isDecided(tie) || season.games[tie] >= MOST_GAMES) {
            return NOT_NOW;
        }
        int replays = rules.cups[season.cups[tie]][REPLAYS];
        return won == DRAWN && season.games[tie] >= replays ? NOT_NOW : 0;
    }

    private int closeCode(int cup, int round) {
        if (!isPool(cup, round)) {
            return NONE;
        }
        return season.canClose(cup, round) ? 0 : NOT_NOW;
    }

    private int deedCode(int deed) {
        int[] row = deedReader.row;
        int at = deed * DEED_FIELDS;
        switch (row[at]) {
            case TIE_DEED:
                return tieCode(row[at + 1], row[at + 2], row[at + 3], row[at + 4]);
            case PLAY_DEED:
                return playCode(row[at + 1], row[at + 2], row[at + 3]);
            default:
                return closeCode(row[at + 1], row[at + 2]);
        }
    }

    private void carryOut(int deed) {
        int[] row = deedReader.row;
        int at = deed * DEED_FIELDS;
        switch (row[at]) {
            case TIE_DEED:
                season.addTie(row[at + 1], row[at + 2], row[at + 3], row[at + 4]);
                break;
            case PLAY_DEED:
                season.addGame(row[at + 1], row[at + 2], row[at + 3]);
                break;
            default:
                season.closeRound(row[at + 1], row[at + 2]);
                break;
        }
    }

    /** Ahead of each act: its undoing is made sure, and what was reckoned is out of date. */
    private void remember() {
        history.put(season);
        ledger.fresh = false;
    }

    private void reckon() {
        if (!ledger.fresh) {
            ledger.reckonAll(rules, season, split);
        }
    }

    private void splitGame(int tie, int cup, int game, int gate) {
        split.reckonGame(rules, cup, season.rounds[tie], game,
            season.hostOf(tie, game), season.guestOf(tie, game), gate);
    }

    private int hadOfGame(int tie, int game, int gate, int what) {
        splitGame(tie, season.cups[tie], game, gate);
        return split.partOf(what, game);
    }

    private int hadOfTie(int tie, int cup, int what) {
        int had = 0;
        for (int game = 0; game < season.games[tie]; game++) {
            splitGame(tie, cup, game, season.gates[tie * MOST_GAMES + game]);
            had += split.partOf(what, game);
        }
        return had;
    }

    /** While GATE is no more than what is DUE, there is no REST, and nobody loses by a greater GATE. */
    private int leastWithoutRest(int tie, int n, int what, int due) {
        int low = 0;
        int high = due;
        for (int i = 0; i < 32 && low < high; i++) {
            int middle = (low + high) / 2;
            if (hadOfGame(tie, season.games[tie], middle, what) >= n) {
                high = middle;
            } else {
                low = middle + 1;
            }
        }
        return low;
    }

    /**
     * What is left by cutting goes up and down with REST, so a greater GATE can bring less. But 100
     * more of REST never bring less: so once a hundred of GATES holds one that brings n, each later
     * hundred does, and the first such hundred can be found by halving.
     */
    private int leastWithRest(int tie, int n, int what, int due) {
        int low = 0;
        int high = (MOST_GATE + 1 - due) / 100;
        for (int i = 0; i < 32 && low < high; i++) {
            int middle = (low + high) / 2;
            if (firstInHundred(tie, n, what, due + middle * 100) != NOT_NOW) {
                high = middle;
            } else {
                low = middle + 1;
            }
        }
        return firstInHundred(tie, n, what, due + low * 100);
    }

    private int firstInHundred(int tie, int n, int what, int from) {
        int past = Math.min(from + 100, MOST_GATE + 1);
        for (int gate = from; gate < past; gate++) {
            if (hadOfGame(tie, season.games[tie], gate, what) >= n) {
                return gate;
            }
        }
        return NOT_NOW;
    }

    /** THE TAPE, the TOKEN of it that is looked at, and the FAULT of what was read latest. */
    private static final class Reader {
        private static final int MOST_DIGITS = 5;

        private final int[] signs = new int[MOST_SIGNS];
        private int size;
        private int kind;
        private int start;
        private int stop;
        private int fault;
        private int place = NONE;

        private boolean append(int v) {
            if (size + 4 > MOST_SIGNS) {
                return false;
            }
            for (int shift = 24; shift >= 0; shift -= 8) {
                signs[size] = v >>> shift & 255;
                size++;
            }
            return true;
        }

        private void rewind() {
            fault = 0;
            place = NONE;
            stop = 0;
            step();
        }

        private void step() {
            int at = stop;
            while (at < size && kindOf(signs[at]) == BLANK) {
                at++;
            }
            start = at;
            kind = at < size ? kindOf(signs[at]) : END;
            if (kind == SINGLE) {
                at++;
            }
            while (at < size && kind != SINGLE && kindOf(signs[at]) == kind) {
                at++;
            }
            stop = at;
        }

        private static int kindOf(int sign) {
            if (sign == 32 || sign == 10) {
                return BLANK;
            }
            if (sign >= 'a' && sign <= 'z') {
                return WORD;
            }
            return sign >= '0' && sign <= '9' ? NUMBER : SINGLE;
        }

        private boolean refuse(int newFault) {
            fault = newFault;
            place = start;
            return false;
        }

        private boolean isAt(String word) {
            if (kind != WORD || stop - start != word.length()) {
                return false;
            }
            for (int i = 0; i < word.length(); i++) {
                if (signs[start + i] != word.charAt(i)) {
                    return false;
                }
            }
            return true;
        }

        private boolean takeWord(String word) {
            if (!isAt(word)) {
                return false;
            }
            step();
            return true;
        }

        /** Whether there is another LINE or DEED, behind the ; that is taken then. */
        private boolean takeSeparator() {
            if (kind != SINGLE || signs[start] != ';') {
                return false;
            }
            step();
            return true;
        }

        private boolean takeNumber(int[] row, int at, int low, int high) {
            if (kind != NUMBER) {
                return refuse(MISPLACED);
            }
            if (stop - start > MOST_DIGITS) {
                return refuse(BAD_NUMBER);
            }
            int n = 0;
            for (int i = start; i < stop; i++) {
                n = n * 10 + signs[i] - '0';
            }
            if (n < low || n > high) {
                return refuse(BAD_NUMBER);
            }
            row[at] = n;
            step();
            return true;
        }
    }

    /** What a BOOK tells. */
    private static final class Rules {
        private int clubCount;
        private int cupCount;
        private final int[][] clubs = new int[MOST_CLUBS][GUARD + 1];
        private final int[][] cups = new int[MOST_CUPS][TOLD_OF_CUP];
        private final int[][] ways = new int[MOST_CUPS][ROUNDS];

        private void clear() {
            clubCount = 0;
            cupCount = 0;
            for (int cup = 0; cup < MOST_CUPS; cup++) {
                for (int round = 0; round < ROUNDS; round++) {
                    ways[cup][round] = 0;
                }
                setUsual(cups[cup]);
            }
        }

        private static void setUsual(int[] cup) {
            cup[FIRST] = 0;
            cup[FLOOR] = 0;
            cup[REPLAYS] = 1;
            cup[NEUTRAL] = ROUNDS;
            cup[ODD] = 0;
        }

        private void copyFrom(Rules other) {
            clubCount = other.clubCount;
            cupCount = other.cupCount;
            for (int club = 0; club < clubCount; club++) {
                System.arraycopy(other.clubs[club], 0, clubs[club], 0, GUARD + 1);
            }
            for (int cup = 0; cup < cupCount; cup++) {
                System.arraycopy(other.cups[cup], 0, cups[cup], 0, TOLD_OF_CUP);
                System.arraycopy(other.ways[cup], 0, ways[cup], 0, ROUNDS);
            }
        }
    }

    /** Reads a BOOK into a draft, so that one with a FAULT leaves the rules as they are. */
    private static final class BookReader {
        private final Reader reader;
        private final Rules draft = new Rules();
        private final int[] told = new int[3];
        private int lines;

        private BookReader(Reader reader) {
            this.reader = reader;
        }

        private boolean readBook() {
            draft.clear();
            lines = 0;
            reader.rewind();
            boolean more = true;
            for (int i = 0; i < MOST_SIGNS && more; i++) {
                if (!readLine()) {
                    return false;
                }
                lines++;
                more = reader.takeSeparator();
            }
            if (reader.kind != END || more) {
                return reader.refuse(MISPLACED);
            }
            return draft.clubCount >= 2 && draft.cupCount >= 1 || reader.refuse(TOO_FEW);
        }

        private boolean readLine() {
            if (reader.isAt("club")) {
                return draft.clubCount < MOST_CLUBS ? readClub() : reader.refuse(TOO_MANY);
            }
            if (reader.isAt("cup")) {
                return draft.cupCount < MOST_CUPS ? readCup() : reader.refuse(TOO_MANY);
            }
            return reader.isAt("way") ? readWay() : reader.refuse(MISPLACED);
        }

        private boolean readClub() {
            reader.step();
            int[] row = draft.clubs[draft.clubCount];
            draft.clubCount++;
            return reader.takeNumber(row, COST, 0, MOST_DUE)
                && reader.takeNumber(row, FARE, 0, MOST_DUE)
                && reader.takeNumber(row, GUARD, 0, MOST_GATE);
        }

        private boolean readCup() {
            reader.step();
            int[] row = draft.cups[draft.cupCount];
            draft.cupCount++;
            if (!readParts(row, PARTS)) {
                return false;
            }
            System.arraycopy(row, PARTS, row, REPLAY_PARTS, 3);
            return readOption("first", row, FIRST, 0, 2)
                && readOption("floor", row, FLOOR, 0, MOST_GATE)
                && readOption("replays", row, REPLAYS, 0, MOST_GAMES - 1)
                && (!reader.takeWord("again") || readParts(row, REPLAY_PARTS))
                && readOption("neutral", row, NEUTRAL, 1, ROUNDS)
                && readOption("odd", row, ODD, 0, 2);
        }

        private boolean readParts(int[] row, int at) {
            if (!reader.takeNumber(row, at, 0, 100) || !reader.takeNumber(row, at + 1, 0, 100)) {
                return false;
            }
            int third = 100 - row[at] - row[at + 1];
            return reader.takeNumber(row, at + 2, third, third);
        }

        private boolean readOption(String word, int[] row, int at, int low, int high) {
            return !reader.takeWord(word) || reader.takeNumber(row, at, low, high);
        }

        private boolean readWay() {
            reader.step();
            boolean whole = reader.takeNumber(told, 0, 0, draft.cupCount - 1)
                && reader.takeNumber(told, 1, 0, ROUNDS - 1)
                && reader.takeNumber(told, 2, TO_WINNERS, TO_NOBODY);
            if (whole) {
                draft.ways[told[0]][told[1]] = told[2];
            }
            return whole;
        }
    }

    /** Reads DEEDS into a row, so that none is done if a later one has a FAULT. */
    private static final class DeedReader {
        private final Reader reader;
        private final int[] row = new int[MOST_DEEDS * DEED_FIELDS];
        private int deeds;

        private DeedReader(Reader reader) {
            this.reader = reader;
        }

        private boolean readDeeds() {
            reader.rewind();
            boolean more = true;
            for (deeds = 0; deeds < MOST_DEEDS && more; deeds++) {
                if (!readDeed(deeds * DEED_FIELDS)) {
                    return false;
                }
                more = reader.takeSeparator();
            }
            return reader.kind == END && !more || reader.refuse(MISPLACED);
        }

        private boolean readDeed(int at) {
            if (reader.takeWord("tie")) {
                row[at] = TIE_DEED;
                return readNumbers(at + 1, 4);
            }
            if (reader.takeWord("play")) {
                row[at] = PLAY_DEED;
                return readNumbers(at + 1, 2) && readWon(at + 3);
            }
            if (reader.takeWord("close")) {
                row[at] = CLOSE_DEED;
                return readNumbers(at + 1, 2);
            }
            return reader.refuse(MISPLACED);
        }

        private boolean readNumbers(int at, int howMany) {
            for (int i = 0; i < howMany; i++) {
                if (!reader.takeNumber(row, at + i, 0, MOST_GATE)) {
                    return false;
                }
            }
            return true;
        }

        private boolean readWon(int at) {
            if (reader.takeWord("first")) {
                row[at] = FIRST_WON;
                return true;
            }
            if (reader.takeWord("second")) {
                row[at] = SECOND_WON;
                return true;
            }
            row[at] = DRAWN;
            return reader.takeWord("drawn") || reader.refuse(MISPLACED);
        }
    }

    /** All that acts change: TIES, GAMES, what is CLOSED. */
    private static final class Season {
        private int ties;
        // a bit for each CUP and ROUND
        private int closed;
        private final int[] cups = new int[MOST_TIES];
        private final int[] rounds = new int[MOST_TIES];
        private final int[] firsts = new int[MOST_TIES];
        private final int[] seconds = new int[MOST_TIES];
        private final int[] games = new int[MOST_TIES];
        private final int[] gates = new int[MOST_TIES * MOST_GAMES];
        private final int[] won = new int[MOST_TIES * MOST_GAMES];

        private void clear() {
            ties = 0;
            closed = 0;
        }

        private void copyFrom(Season other) {
            ties = other.ties;
            closed = other.closed;
            System.arraycopy(other.cups, 0, cups, 0, ties);
            System.arraycopy(other.rounds, 0, rounds, 0, ties);
            System.arraycopy(other.firsts, 0, firsts, 0, ties);
            System.arraycopy(other.seconds, 0, seconds, 0, ties);
            System.arraycopy(other.games, 0, games, 0, ties);
            System.arraycopy(other.gates, 0, gates, 0, ties * MOST_GAMES);
            System.arraycopy(other.won, 0, won, 0, ties * MOST_GAMES);
        }

        private void addTie(int cup, int round, int first, int second) {
            cups[ties] = cup;
            rounds[ties] = round;
            firsts[ties] = first;
            seconds[ties] = second;
            games[ties] = 0;
            ties++;
        }

        private void addGame(int tie, int gate, int winner) {
            int at = tie * MOST_GAMES + games[tie];
            gates[at] = gate;
            won[at] = winner;
            games[tie]++;
        }

        private void closeRound(int cup, int round) {
            closed |= 1 << cup * ROUNDS + round;
        }

        private boolean isClosed(int cup, int round) {
            return (closed >> cup * ROUNDS + round & 1) == 1;
        }

        private boolean canClose(int cup, int round) {
            boolean hasTie = false;
            boolean allDecided = true;
            for (int tie = 0; tie < ties; tie++) {
                if (isOf(tie, cup, round)) {
                    hasTie = true;
                    allDecided = allDecided && isDecided(tie);
                }
            }
            return hasTie && allDecided && !isClosed(cup, round);
        }

        private boolean isOf(int tie, int cup, int round) {
            return cups[tie] == cup && rounds[tie] == round;
        }

        private boolean isIn(int cup, int round, int club) {
            for (int tie = 0; tie < ties; tie++) {
                if (isOf(tie, cup, round) && (firsts[tie] == club || seconds[tie] == club)) {
                    return true;
                }
            }
            return false;
        }

        private boolean hasWonIn(int cup, int round, int club) {
            for (int tie = 0; tie < ties; tie++) {
                if (isOf(tie, cup, round) && winnerOf(tie) == club) {
                    return true;
                }
            }
            return false;
        }

        private int resultOf(int tie) {
            return games[tie] > 0 ? won[tie * MOST_GAMES + games[tie] - 1] : DRAWN;
        }

        private boolean isDecided(int tie) {
            return resultOf(tie) != DRAWN;
        }

        private int winnerOf(int tie) {
            if (!isDecided(tie)) {
                return NOT_NOW;
            }
            return resultOf(tie) == FIRST_WON ? firsts[tie] : seconds[tie];
        }

        private int loserOf(int tie) {
            if (!isDecided(tie)) {
                return NOT_NOW;
            }
            return resultOf(tie) == FIRST_WON ? seconds[tie] : firsts[tie];
        }

        private int hostOf(int tie, int game) {
            return game % 2 == 0 ? firsts[tie] : seconds[tie];
        }

        private int guestOf(int tie, int game) {
            return game % 2 == 0 ? seconds[tie] : firsts[tie];
        }

        private int gatesOf(int tie) {
            int sum = 0;
            for (int game = 0; game < games[tie]; game++) {
                sum += gates[tie * MOST_GAMES + game];
            }
            return sum;
        }

        private int allGames() {
            int sum = 0;
            for (int tie = 0; tie < ties; tie++) {
                sum += games[tie];
            }
            return sum;
        }

        private int decidedTies() {
            int sum = 0;
            for (int tie = 0; tie < ties; tie++) {
                if (isDecided(tie)) {
                    sum++;
                }
            }
            return sum;
        }

        /** The clubs, as bits, that any of these (as bits, too) MET. */
        private int metBy(int clubs) {
            int met = 0;
            for (int tie = 0; tie < ties; tie++) {
                if ((clubs >> firsts[tie] & 1) == 1) {
                    met |= 1 << seconds[tie];
                }
                if ((clubs >> seconds[tie] & 1) == 1) {
                    met |= 1 << firsts[tie];
                }
            }
            return met;
        }

        private int linkedWith(int club) {
            int reached = 1 << club;
            for (int steps = 1; steps < MOST_CLUBS; steps++) {
                reached |= metBy(reached);
            }
            return reached;
        }

        private int stillIn(int cup) {
            int were = 0;
            int lost = 0;
            for (int tie = 0; tie < ties; tie++) {
                if (cups[tie] == cup) {
                    were |= 1 << firsts[tie] | 1 << seconds[tie];
                    lost |= isDecided(tie) ? 1 << loserOf(tie) : 0;
                }
            }
            return were & ~lost;
        }
    }

    /** The seasons ahead of the latest acts, in a ring: the oldest gives way. */
    private static final class History {
        private final Season[] ring = new Season[MOST_UNDONE];
        private int next;
        private int size;

        private History() {
            for (int i = 0; i < MOST_UNDONE; i++) {
                ring[i] = new Season();
            }
        }

        private void clear() {
            size = 0;
        }

        private void put(Season season) {
            ring[next].copyFrom(season);
            next = (next + 1) % MOST_UNDONE;
            size = Math.min(size + 1, MOST_UNDONE);
        }

        private void takeBack(Season season) {
            next = (next + MOST_UNDONE - 1) % MOST_UNDONE;
            season.copyFrom(ring[next]);
            size--;
        }
    }

    /** How the GATE of one GAME is split. */
    private static final class Split {
        private int hostDue;
        private int guestDue;
        private int hostPaid;
        private int guestPaid;
        private int rest;
        private int hostShare;
        private int guestShare;
        private int poolShare;
        private int lacked;

        private void reckonGame(Rules rules, int cup, int round, int game, int host, int guest, int gate) {
            int[] rule = rules.cups[cup];
            boolean neutral = round >= rule[NEUTRAL];
            hostDue = rules.clubs[host][neutral ? FARE : COST];
            guestDue = rules.clubs[guest][FARE];
            payExpenses(rule[FIRST], gate);
            rest = gate - hostPaid - guestPaid;
            shareRest(rule, game == 0 ? PARTS : REPLAY_PARTS, neutral);
            lacked = 0;
            if (game == 0 && !neutral) {
                guarantee(Math.min(rule[FLOOR], rest));
            }
        }

        private void payExpenses(int first, int gate) {
            int both = hostDue + guestDue;
            if (both <= gate || both <= 0) {
                hostPaid = hostDue;
                guestPaid = guestDue;
            } else if (first == 0) {
                hostPaid = Math.min(hostDue, gate);
                guestPaid = gate - hostPaid;
            } else if (first == 1) {
                guestPaid = Math.min(guestDue, gate);
                hostPaid = gate - guestPaid;
            } else {
                // what is left by cutting both goes to the HOST, whose own cut then makes no difference
                guestPaid = gate * guestDue / both;
                hostPaid = gate - guestPaid;
            }
        }

        private void shareRest(int[] rule, int parts, boolean neutral) {
            int hostPart = rule[parts];
            int guestPart = rule[parts + 1];
            int poolPart = rule[parts + 2];
            if (neutral) {
                int both = hostPart + guestPart;
                hostPart = both / 2;
                guestPart = both / 2;
                poolPart += both % 2;
            }
            hostShare = rest * hostPart / 100;
            guestShare = rest * guestPart / 100;
            poolShare = rest * poolPart / 100;
            int left = rest - hostShare - guestShare - poolShare;
            if (rule[ODD] == 0) {
                hostShare += left;
            } else if (rule[ODD] == 1) {
                guestShare += left;
            } else {
                poolShare += left;
            }
        }

        private void guarantee(int atLeast) {
            lacked = Math.max(0, atLeast - guestShare);
            int fromHost = Math.min(lacked, hostShare);
            guestShare += lacked;
            hostShare -= fromHost;
            poolShare -= lacked - fromHost;
        }

        /** EXPENSES and SHARE of a club of the TIE, SHARE of the POOL. */
        private int partOf(int what, int game) {
            if (what == OF_POOL) {
                return poolShare;
            }
            boolean isHost = (game % 2 == 0) == (what == OF_FIRST);
            return isHost ? hostPaid + hostShare : guestPaid + guestShare;
        }
    }

    /** All sums of a season, in rows as the calls of the face number them. */
    private static final class Ledger {
        private final int[][] clubSums = new int[MOST_CLUBS][CLUB_FIELDS];
        private final int[][] cupSums = new int[MOST_CUPS][SUMS_OF_CUP];
        private final int[][] poolSums = new int[MOST_CUPS * ROUNDS][POOL_FIELDS];
        private final int[] held = new int[MOST_CLUBS];
        private final int[] balances = new int[MOST_CLUBS + 1];
        private final int[] totals = new int[ALL_FIELDS];
        private boolean fresh;

        private void reckonAll(Rules rules, Season season, Split split) {
            clear();
            for (int tie = 0; tie < season.ties; tie++) {
                enterTie(season, tie);
                for (int game = 0; game < season.games[tie]; game++) {
                    enterGame(rules, season, split, tie, game);
                }
            }
            for (int cup = 0; cup < rules.cupCount; cup++) {
                settlePools(rules, season, cup);
            }
            for (int club = 0; club < rules.clubCount; club++) {
                sumUp(rules, club);
            }
            balances[rules.clubCount] = totals[ALL_POOLED] - totals[ALL_GOT];
            topUp(rules.clubCount);
            fresh = true;
        }

        private void clear() {
            for (int club = 0; club < MOST_CLUBS; club++) {
                clearRow(clubSums[club]);
            }
            for (int cup = 0; cup < MOST_CUPS; cup++) {
                clearRow(cupSums[cup]);
            }
            for (int pool = 0; pool < MOST_CUPS * ROUNDS; pool++) {
                clearRow(poolSums[pool]);
            }
            clearRow(held);
            clearRow(totals);
        }

        private static void clearRow(int[] row) {
            for (int i = 0; i < row.length; i++) {
                row[i] = 0;
            }
        }

        private void enterTie(Season season, int tie) {
            cupSums[season.cups[tie]][TIES_OF_CUP]++;
            poolSums[season.cups[tie] * ROUNDS + season.rounds[tie]][TIES_OF_ROUND]++;
            if (season.isDecided(tie)) {
                clubSums[season.winnerOf(tie)][WINS]++;
            }
        }

        private void enterGame(Rules rules, Season season, Split split, int tie, int game) {
            int cup = season.cups[tie];
            int round = season.rounds[tie];
            int host = season.hostOf(tie, game);
            int guest = season.guestOf(tie, game);
            int gate = season.gates[tie * MOST_GAMES + game];
            split.reckonGame(rules, cup, round, game, host, guest, gate);
            clubSums[host][GAMES]++;
            clubSums[guest][GAMES]++;
            clubSums[host][EXPENSES] += split.hostPaid;
            clubSums[guest][EXPENSES] += split.guestPaid;
            clubSums[host][AS_HOST] += split.hostShare;
            clubSums[guest][AS_GUEST] += split.guestShare;
            held[host] += gate;
            cupSums[cup][GATES_OF_CUP] += gate;
            poolSums[cup * ROUNDS + round][IN_POOL] += split.poolShare;
            totals[ALL_GATES] += gate;
            totals[ALL_EXPENSES] += split.hostPaid + split.guestPaid;
            totals[ALL_SHARES] += split.hostShare + split.guestShare;
            totals[ALL_POOLED] += split.poolShare;
        }

        private void settlePools(Rules rules, Season season, int cup) {
            int left = 0;
            for (int round = 0; round < ROUNDS; round++) {
                int[] row = poolSums[cup * ROUNDS + round];
                row[CARRIED] = left;
                row[IN_POOL] += left;
                row[WAY] = rules.ways[cup][round];
                left = 0;
                if (season.isClosed(cup, round)) {
                    row[CLOSED] = 1;
                    row[TAKERS] = takersBy(row[WAY], row[TIES_OF_ROUND]);
                    row[EACH] = row[TAKERS] > 0 ? row[IN_POOL] / row[TAKERS] : 0;
                    handOut(season, cup, round, row);
                    left = row[IN_POOL] - row[EACH] * row[TAKERS];
                }
            }
            cupSums[cup][KEPT_OF_CUP] = left;
            totals[ALL_KEPT] += left;
        }

        private static int takersBy(int way, int ties) {
            if (way == TO_NOBODY) {
                return 0;
            }
            return way == TO_EACH_CLUB ? 2 * ties : ties;
        }

        private void handOut(Season season, int cup, int round, int[] row) {
            for (int tie = 0; tie < season.ties; tie++) {
                if (season.isOf(tie, cup, round) && season.isDecided(tie)) {
                    if (row[WAY] == TO_WINNERS || row[WAY] == TO_EACH_CLUB) {
                        clubSums[season.winnerOf(tie)][OF_POOLS] += row[EACH];
                    }
                    if (row[WAY] == TO_LOSERS || row[WAY] == TO_EACH_CLUB) {
                        clubSums[season.loserOf(tie)][OF_POOLS] += row[EACH];
                    }
                }
            }
            totals[ALL_GOT] += row[EACH] * row[TAKERS];
        }

        private void sumUp(Rules rules, int club) {
            int[] row = clubSums[club];
            row[HAS] = row[EXPENSES] + row[AS_HOST] + row[AS_GUEST] + row[OF_POOLS];
            row[LACKS] = Math.max(0, rules.clubs[club][GUARD] - row[HAS]);
            balances[club] = row[HAS] - held[club];
        }

        private void topUp(int clubCount) {
            int left = totals[ALL_KEPT];
            int served = 0;
            for (int i = 0; i < clubCount && left > 0; i++) {
                int club = leastLacking(clubCount, served);
                if (club != NONE) {
                    served |= 1 << club;
                    clubSums[club][TOPPED] = Math.min(left, clubSums[club][LACKS]);
                    left -= clubSums[club][TOPPED];
                }
            }
        }

        private int leastLacking(int clubCount, int served) {
            int found = NONE;
            for (int club = 0; club < clubCount; club++) {
                boolean waits = clubSums[club][LACKS] > 0 && (served >> club & 1) == 0;
                if (waits && (found == NONE || clubSums[club][LACKS] < clubSums[found][LACKS])) {
                    found = club;
                }
            }
            return found;
        }

        private int allLacks(int clubCount) {
            int sum = 0;
            for (int club = 0; club < clubCount; club++) {
                sum += clubSums[club][LACKS];
            }
            return sum;
        }

        private int rankOf(int club, int clubCount) {
            int ahead = 0;
            for (int other = 0; other < clubCount; other++) {
                int more = clubSums[other][HAS] - clubSums[club][HAS];
                if (more > 0 || more == 0 && other < club) {
                    ahead++;
                }
            }
            return ahead;
        }
    }

    /** Payments by which all are even. */
    private static final class Settling {
        private static final int SIDES = MOST_CLUBS + 1;

        private int uneven;
        private final int[] open = new int[SIDES];
        // by each set of the uneven ones but the last, as bits
        private final int[] groups = new int[1 << MOST_CLUBS];

        private int payments;
        private final int[] payers = new int[SIDES];
        private final int[] payees = new int[SIDES];
        private final int[] amounts = new int[SIDES];

        private void gather(int[] balances, int sides) {
            uneven = 0;
            for (int who = 0; who < sides; who++) {
                if (balances[who] != 0) {
                    open[uneven] = balances[who];
                    uneven++;
                }
            }
        }

        /**
         * The uneven ones are put in a row, one by one; each time that the row so far comes to 0, a
         * group ends. The best row of a set goes on from the best row of the set less its last one.
         * All together come to 0, so the last of all can stand last, and ends the last group.
         */
        private int mostGroups() {
            if (uneven == 0) {
                return 0;
            }
            int sets = 1 << uneven - 1;
            for (int set = 1; set < sets; set++) {
                int sum = 0;
                int most = 0;
                for (int i = 0; i < uneven - 1; i++) {
                    if ((set >> i & 1) == 1) {
                        sum += open[i];
                        most = Math.max(most, groups[set ^ 1 << i]);
                    }
                }
                groups[set] = sum == 0 ? most + 1 : most;
            }
            return groups[sets - 1] + 1;
        }

        private void listPayments(int[] balances, int sides) {
            System.arraycopy(balances, 0, open, 0, sides);
            payments = 0;
            for (int i = 0; i < sides; i++) {
                int lowest = 0;
                int greatest = 0;
                for (int who = 1; who < sides; who++) {
                    lowest = open[who] < open[lowest] ? who : lowest;
                    greatest = open[who] > open[greatest] ? who : greatest;
                }
                if (open[lowest] < 0) {
                    pay(lowest, greatest);
                }
            }
        }

        private void pay(int payer, int payee) {
            int amount = Math.min(-open[payer], open[payee]);
            open[payer] += amount;
            open[payee] -= amount;
            payers[payments] = payer;
            payees[payments] = payee;
            amounts[payments] = amount;
            payments++;
        }
    }
}
