import java.util.ArrayList;
import java.util.Arrays;
import java.util.HashSet;
import java.util.List;
import java.util.NoSuchElementException;
import java.util.Set;
import java.util.regex.Matcher;
import java.util.regex.Pattern;

/**
 * The document told a second time, as slowly and plainly as can be: whole copies of states, tries of
 * every GATE, every parting into groups. OracleTest holds CupPot's answers against it.
 */
final class Oracle {
    static final class Tie {
        int cup;
        int round;
        int first;
        int second;
        List<int[]> games = new ArrayList<>();

        Tie copy() {
            Tie t = new Tie();
            t.cup = cup;
            t.round = round;
            t.first = first;
            t.second = second;
            for (int[] g : games) {
                t.games.add(g.clone());
            }
            return t;
        }

        int winner() {
            for (int[] g : games) {
                if (g[1] != 2) {
                    return g[1] == 0 ? first : second;
                }
            }
            return -2;
        }

        int loser() {
            return winner() == -2 ? -2 : first + second - winner();
        }
    }

    static final class State {
        List<Tie> ties = new ArrayList<>();
        Set<List<Integer>> closed = new HashSet<>();

        State copy() {
            State s = new State();
            for (Tie t : ties) {
                s.ties.add(t.copy());
            }
            s.closed.addAll(closed);
            return s;
        }

        List<Tie> of(int cup, int round) {
            List<Tie> found = new ArrayList<>();
            for (Tie t : ties) {
                if (t.cup == cup && t.round == round) {
                    found.add(t);
                }
            }
            return found;
        }
    }

    static final class Cup {
        int[] parts;
        int first = 0;
        int floor = 0;
        int replays = 1;
        int[] again;
        int neutral = 6;
        int odd = 0;
        int[] ways = new int[6];
    }

    static final class Fault extends Exception {
        private static final long serialVersionUID = 1;
        final int code;
        final int place;

        Fault(int code, int place) {
            this.code = code;
            this.place = place;
        }
    }

    private record Token(String text, int at) {
    }

    private String tape = "";
    private List<int[]> clubs = new ArrayList<>();
    private List<Cup> cups = new ArrayList<>();
    private State state = new State();
    private List<State> undos = new ArrayList<>();
    private State[] kept = new State[2];
    private int fault = 0;
    private int place = -1;

    private List<Token> tokens;
    private int at;

    // ---- texts

    int sign(int v) {
        if (tape.length() > 596) {
            return -1;
        }
        tape += "" + (char) (v >>> 24) + (char) (v >>> 16 & 255) + (char) (v >>> 8 & 255) + (char) (v & 255);
        return tape.length();
    }

    boolean end(int n) {
        if (n < 0 || n > tape.length()) {
            return false;
        }
        tape = tape.substring(0, n);
        return true;
    }

    private void tokenize() {
        tokens = new ArrayList<>();
        Matcher m = Pattern.compile("[a-z]+|[0-9]+|[^ \n]", Pattern.DOTALL).matcher(tape);
        while (m.find()) {
            tokens.add(new Token(m.group(), m.start()));
        }
        tokens.add(new Token("", tape.length()));
        at = 0;
        tape = "";
        fault = 0;
        place = -1;
    }

    private Token peek() {
        return tokens.get(at);
    }

    private boolean eat(String text) {
        if (peek().text.equals(text)) {
            at++;
            return true;
        }
        return false;
    }

    private int number(int low, int high) throws Fault {
        Token t = peek();
        if (t.text.isEmpty() || !Character.isDigit(t.text.charAt(0))) {
            throw new Fault(1, t.at);
        }
        if (t.text.length() > 5 || Integer.parseInt(t.text) < low || Integer.parseInt(t.text) > high) {
            throw new Fault(2, t.at);
        }
        at++;
        return Integer.parseInt(t.text);
    }

    private int[] parts() throws Fault {
        int a = number(0, 100);
        int b = number(0, 100);
        Token third = peek();
        int c = number(0, 100);
        if (a + b + c != 100) {
            throw new Fault(2, third.at);
        }
        return new int[] {a, b, c};
    }

    int book() {
        tokenize();
        List<int[]> newClubs = new ArrayList<>();
        List<Cup> newCups = new ArrayList<>();
        int lines = 0;
        try {
            do {
                line(newClubs, newCups);
                lines++;
            } while (eat(";"));
            if (!peek().text.isEmpty()) {
                throw new Fault(1, peek().at);
            }
            if (newClubs.size() < 2 || newCups.isEmpty()) {
                throw new Fault(4, peek().at);
            }
        } catch (Fault f) {
            fault = f.code;
            place = f.place;
            return -1;
        }
        clubs = newClubs;
        cups = newCups;
        state = new State();
        undos = new ArrayList<>();
        kept = new State[2];
        return lines;
    }

    private void line(List<int[]> newClubs, List<Cup> newCups) throws Fault {
        Token word = peek();
        if (eat("club")) {
            if (newClubs.size() == 12) {
                throw new Fault(3, word.at);
            }
            newClubs.add(new int[] {number(0, 9999), number(0, 9999), number(0, 99999)});
        } else if (eat("cup")) {
            if (newCups.size() == 4) {
                throw new Fault(3, word.at);
            }
            Cup c = new Cup();
            c.parts = parts();
            c.first = eat("first") ? number(0, 2) : 0;
            c.floor = eat("floor") ? number(0, 99999) : 0;
            c.replays = eat("replays") ? number(0, 3) : 1;
            c.again = eat("again") ? parts() : c.parts;
            c.neutral = eat("neutral") ? number(1, 6) : 6;
            c.odd = eat("odd") ? number(0, 2) : 0;
            newCups.add(c);
        } else if (eat("way")) {
            int c = number(0, newCups.size() - 1);
            int r = number(0, 5);
            newCups.get(c).ways[r] = number(0, 3);
        } else {
            throw new Fault(1, word.at);
        }
    }

    int deeds() {
        tokenize();
        List<int[]> list = new ArrayList<>();
        try {
            do {
                list.add(deed());
            } while (eat(";"));
            if (!peek().text.isEmpty()) {
                throw new Fault(1, peek().at);
            }
        } catch (Fault f) {
            fault = f.code;
            place = f.place;
            return -1;
        }
        if (clubs.isEmpty()) {
            return -1;
        }
        State before = state.copy();
        int done = 0;
        for (int[] d : list) {
            int code;
            if (d[0] == 0) {
                code = doTie(d[1], d[2], d[3], d[4]);
            } else if (d[0] == 1) {
                code = doPlay(d[1], d[2], d[3]);
            } else {
                code = doClose(d[1], d[2]);
            }
            if (code < 0) {
                break;
            }
            done++;
        }
        if (done > 0) {
            push(before);
        }
        return done;
    }

    private int[] deed() throws Fault {
        if (eat("tie")) {
            return new int[] {0, number(0, 99999), number(0, 99999), number(0, 99999), number(0, 99999)};
        }
        if (eat("play")) {
            int[] d = {1, number(0, 99999), number(0, 99999), 0};
            d[3] = eat("first") ? 0 : eat("second") ? 1 : eat("drawn") ? 2 : -1;
            if (d[3] < 0) {
                throw new Fault(1, peek().at);
            }
            return d;
        }
        if (eat("close")) {
            return new int[] {2, number(0, 99999), number(0, 99999)};
        }
        throw new Fault(1, peek().at);
    }

    int fault(int what) {
        return what == 0 ? fault : what == 1 ? place : -1;
    }

    // ---- acts

    private void push(State before) {
        undos.add(before);
        if (undos.size() > 12) {
            undos.remove(0);
        }
    }

    private boolean isClub(int c) {
        return c >= 0 && c < clubs.size();
    }

    private boolean isCup(int c) {
        return c >= 0 && c < cups.size();
    }

    private boolean isTie(int t) {
        return t >= 0 && t < state.ties.size();
    }

    private boolean isGame(int t, int g) {
        return isTie(t) && g >= 0 && g < state.ties.get(t).games.size();
    }

    private static boolean between(int low, int n, int high) {
        return low <= n && n <= high;
    }

    private int doTie(int cup, int round, int first, int second) {
        if (!isCup(cup) || !between(0, round, 5) || !isClub(first) || !isClub(second)) {
            return -1;
        }
        boolean can = first != second && state.ties.size() < 30 && !state.closed.contains(List.of(cup, round));
        for (Tie t : state.of(cup, round)) {
            for (int club : new int[] {first, second}) {
                can &= t.first != club && t.second != club;
            }
        }
        if (round > 0) {
            can &= state.closed.contains(List.of(cup, round - 1));
            Set<Integer> winners = new HashSet<>();
            for (Tie t : state.of(cup, round - 1)) {
                winners.add(t.winner());
            }
            can &= winners.contains(first) && winners.contains(second);
        }
        if (!can) {
            return -2;
        }
        Tie t = new Tie();
        t.cup = cup;
        t.round = round;
        t.first = first;
        t.second = second;
        state.ties.add(t);
        return state.ties.size() - 1;
    }

    private int doPlay(int tie, int gate, int won) {
        if (!isTie(tie) || !between(0, gate, 99999) || !between(0, won, 2)) {
            return -1;
        }
        Tie t = state.ties.get(tie);
        if (t.winner() != -2 || won == 2 && t.games.size() == cups.get(t.cup).replays) {
            return -2;
        }
        t.games.add(new int[] {gate, won});
        return t.games.size();
    }

    private int doClose(int cup, int round) {
        if (!isCup(cup) || !between(0, round, 5)) {
            return -1;
        }
        List<Tie> of = state.of(cup, round);
        boolean can = !of.isEmpty() && !state.closed.contains(List.of(cup, round));
        for (Tie t : of) {
            can &= t.winner() != -2;
        }
        if (!can) {
            return -2;
        }
        state.closed.add(List.of(cup, round));
        return pool(cup, round, 2);
    }

    int tie(int cup, int round, int first, int second) {
        State before = state.copy();
        int code = doTie(cup, round, first, second);
        if (code >= 0) {
            push(before);
        }
        return code;
    }

    int play(int tie, int gate, int won) {
        State before = state.copy();
        int code = doPlay(tie, gate, won);
        if (code >= 0) {
            push(before);
        }
        return code;
    }

    int close(int cup, int round) {
        State before = state.copy();
        int code = doClose(cup, round);
        if (code >= 0) {
            push(before);
        }
        return code;
    }

    int undo() {
        if (clubs.isEmpty()) {
            return -1;
        }
        if (undos.isEmpty()) {
            return -2;
        }
        state = undos.remove(undos.size() - 1);
        return undos.size();
    }

    boolean keep(int k) {
        if (clubs.isEmpty() || k != 0 && k != 1) {
            return false;
        }
        kept[k] = state.copy();
        return true;
    }

    boolean again(int k) {
        if (k != 0 && k != 1 || kept[k] == null) {
            return false;
        }
        push(state);
        state = kept[k].copy();
        return true;
    }

    // ---- one GAME: {EXPENSES of HOST, of GUEST, REST, SHARE of HOST, of GUEST, of POOL, LACKED}

    private int[] split(Tie t, Cup c, int number, int gate) {
        int host = number % 2 == 0 ? t.first : t.second;
        int guest = t.first + t.second - host;
        boolean neutral = t.round >= c.neutral;
        long dueHost = neutral ? clubs.get(host)[1] : clubs.get(host)[0];
        long dueGuest = clubs.get(guest)[1];
        long eh;
        long eg;
        if (c.first == 0) {
            eh = Math.min(dueHost, gate);
            eg = Math.min(dueGuest, gate - eh);
        } else if (c.first == 1) {
            eg = Math.min(dueGuest, gate);
            eh = Math.min(dueHost, gate - eg);
        } else if (dueHost + dueGuest > gate) {
            eh = gate * dueHost / (dueHost + dueGuest);
            eg = gate * dueGuest / (dueHost + dueGuest);
            eh += gate - eh - eg;
        } else {
            eh = dueHost;
            eg = dueGuest;
        }
        long rest = gate - eh - eg;
        int[] p = (number > 0 ? c.again : c.parts).clone();
        if (neutral) {
            int both = p[0] + p[1];
            p[0] = both / 2;
            p[1] = both / 2;
            p[2] = 100 - p[0] - p[1];
        }
        long[] s = new long[3];
        long left = rest;
        for (int i = 0; i < 3; i++) {
            s[i] = rest * p[i] / 100;
            left -= s[i];
        }
        s[c.odd] += left;
        long lacked = 0;
        if (number == 0 && !neutral && s[1] < Math.min(c.floor, rest)) {
            lacked = Math.min(c.floor, rest) - s[1];
            for (long i = 0; i < lacked; i++) {
                s[s[0] > 0 ? 0 : 2]--;
                s[1]++;
            }
        }
        return new int[] {(int) eh, (int) eg, (int) rest, (int) s[0], (int) s[1], (int) s[2], (int) lacked};
    }

    private int part(Tie t, Cup c, int number, int gate, int what) {
        int[] s = split(t, c, number, gate);
        if (what == 2) {
            return s[5];
        }
        return number % 2 == what ? s[0] + s[3] : s[1] + s[4];
    }

    // ---- what there is

    int club(int club, int what) {
        if (!isClub(club) || !between(0, what, 11)) {
            throw new NoSuchElementException();
        }
        if (what < 3) {
            return clubs.get(club)[what];
        }
        if (what == 3) {
            return club(club, 4) + club(club, 5) + club(club, 6) + club(club, 7);
        }
        if (what == 8) {
            return Math.max(0, club(club, 2) - club(club, 3));
        }
        if (what == 9) {
            return topped()[club];
        }
        int sum = 0;
        for (Tie t : state.ties) {
            for (int g = 0; g < t.games.size(); g++) {
                int[] s = split(t, cups.get(t.cup), g, t.games.get(g)[0]);
                boolean hosts = (g % 2 == 0 ? t.first : t.second) == club;
                boolean visits = (g % 2 == 1 ? t.first : t.second) == club;
                sum += what == 4 && hosts ? s[0] : 0;
                sum += what == 4 && visits ? s[1] : 0;
                sum += what == 5 && hosts ? s[3] : 0;
                sum += what == 6 && visits ? s[4] : 0;
                sum += what == 10 && (hosts || visits) ? 1 : 0;
            }
            sum += what == 11 && t.winner() == club ? 1 : 0;
            if (what == 7 && state.closed.contains(List.of(t.cup, t.round))) {
                int way = cups.get(t.cup).ways[t.round];
                boolean gets = way == 0 && t.winner() == club || way == 2 && t.loser() == club
                    || way == 1 && (t.first == club || t.second == club);
                sum += gets ? pool(t.cup, t.round, 2) : 0;
            }
        }
        return sum;
    }

    private int[] topped() {
        int left = all(5);
        int[] topped = new int[clubs.size()];
        List<Integer> order = new ArrayList<>();
        for (int i = 0; i < clubs.size(); i++) {
            order.add(i);
        }
        order.sort((a, b) -> club(a, 8) - club(b, 8));
        for (int c : order) {
            topped[c] = Math.min(left, club(c, 8));
            left -= topped[c];
        }
        return topped;
    }

    int cup(int cup, int what) {
        if (!isCup(cup)) {
            return -1;
        }
        Cup c = cups.get(cup);
        int gates = 0;
        int ties = 0;
        for (Tie t : state.ties) {
            if (t.cup == cup) {
                ties++;
                gates += t.games.stream().mapToInt(g -> g[0]).sum();
            }
        }
        int kept = state.closed.contains(List.of(cup, 5)) ? leftOf(cup, 5) : 0;
        int[] row = {c.parts[0], c.parts[1], c.parts[2], c.first, c.floor, c.replays, c.again[0], c.again[1],
            c.again[2], c.neutral, c.odd, kept, gates, ties};
        return between(0, what, row.length - 1) ? row[what] : -1;
    }

    private int leftOf(int cup, int round) {
        return pool(cup, round, 0) - pool(cup, round, 2) * pool(cup, round, 3);
    }

    int tieOf(int tie, int what) {
        if (!isTie(tie)) {
            return -1;
        }
        Tie t = state.ties.get(tie);
        int gates = t.games.stream().mapToInt(g -> g[0]).sum();
        int[] row = {t.cup, t.round, t.first, t.second, t.games.size(), t.winner(), gates,
            byCup(tie, t.cup, 0), byCup(tie, t.cup, 1), byCup(tie, t.cup, 2)};
        return between(0, what, 9) ? row[what] : -1;
    }

    int game(int tie, int game, int what) {
        if (!isGame(tie, game) || !between(0, what, 9)) {
            return -1;
        }
        Tie t = state.ties.get(tie);
        int[] g = t.games.get(game);
        int[] s = split(t, cups.get(t.cup), game, g[0]);
        return what == 0 ? g[0] : what == 1 ? (game % 2 == 0 ? t.first : t.second) : what == 9 ? g[1] : s[what - 2];
    }

    int pool(int cup, int round, int what) {
        if (!isCup(cup) || !between(0, round, 5) || !between(0, what, 6)) {
            return -1;
        }
        boolean closed = state.closed.contains(List.of(cup, round));
        int ties = state.of(cup, round).size();
        int way = cups.get(cup).ways[round];
        int carried = round > 0 && state.closed.contains(List.of(cup, round - 1)) ? leftOf(cup, round - 1) : 0;
        int in = carried;
        for (Tie t : state.of(cup, round)) {
            for (int g = 0; g < t.games.size(); g++) {
                in += split(t, cups.get(cup), g, t.games.get(g)[0])[5];
            }
        }
        int takers = !closed || way == 3 ? 0 : way == 1 ? ties * 2 : ties;
        int each = takers == 0 ? 0 : in / takers;
        return new int[] {in, carried, each, takers, closed ? 1 : 0, way, ties}[what];
    }

    int all(int what) {
        if (clubs.isEmpty() || !between(0, what, 5)) {
            return -1;
        }
        int sum = 0;
        for (int c = 0; c < clubs.size(); c++) {
            sum += what == 1 ? club(c, 4) : what == 2 ? club(c, 5) + club(c, 6) : what == 4 ? club(c, 7) : 0;
        }
        for (int c = 0; c < cups.size(); c++) {
            sum += what == 0 ? cup(c, 12) : what == 5 ? cup(c, 11) : 0;
            for (int r = 0; r < 6; r++) {
                sum += what == 3 ? pool(c, r, 0) - pool(c, r, 1) : 0;
            }
        }
        return sum;
    }

    // ---- who holds what

    int balance(int who) {
        if (clubs.isEmpty() || !between(0, who, clubs.size())) {
            return Integer.MIN_VALUE;
        }
        if (who == clubs.size()) {
            return all(3) - all(4);
        }
        int held = 0;
        for (Tie t : state.ties) {
            for (int g = 0; g < t.games.size(); g++) {
                held += (g % 2 == 0 ? t.first : t.second) == who ? t.games.get(g)[0] : 0;
            }
        }
        return club(who, 3) - held;
    }

    private int[] balances() {
        int[] b = new int[clubs.size() + 1];
        for (int i = 0; i < b.length; i++) {
            b[i] = balance(i);
        }
        return b;
    }

    int fewest(int what) {
        if (clubs.isEmpty() || !between(0, what, 1)) {
            return -1;
        }
        int[] open = Arrays.stream(balances()).filter(b -> b != 0).toArray();
        int groups = partings(open, 0, new ArrayList<>());
        return what == 1 ? groups : open.length - groups;
    }

    /** Every parting: each one goes into a group that there is, or opens a new one. */
    private static int partings(int[] open, int i, List<Integer> sums) {
        if (i == open.length) {
            return sums.stream().allMatch(s -> s == 0) ? sums.size() : -1;
        }
        int best = -1;
        for (int g = 0; g < sums.size(); g++) {
            sums.set(g, sums.get(g) + open[i]);
            best = Math.max(best, partings(open, i + 1, sums));
            sums.set(g, sums.get(g) - open[i]);
        }
        // more groups that are uneven yet than ones to come can't all be evened
        long uneven = sums.stream().filter(s -> s != 0).count();
        if (uneven <= open.length - i) {
            sums.add(open[i]);
            best = Math.max(best, partings(open, i + 1, sums));
            sums.remove(sums.size() - 1);
        }
        return best;
    }

    int pays(int i, int what) {
        if (clubs.isEmpty() || !between(0, what, 2) || i < -1) {
            return -1;
        }
        List<int[]> list = new ArrayList<>();
        int[] b = balances();
        while (Arrays.stream(b).anyMatch(x -> x != 0)) {
            int low = Arrays.stream(b).min().getAsInt();
            int high = Arrays.stream(b).max().getAsInt();
            int who = 0;
            while (b[who] != low) {
                who++;
            }
            int whom = 0;
            while (b[whom] != high) {
                whom++;
            }
            int much = Math.min(-low, high);
            b[who] += much;
            b[whom] -= much;
            list.add(new int[] {who, whom, much});
        }
        return i == -1 ? list.size() : i >= list.size() ? -2 : list.get(i)[what];
    }

    long mark() {
        if (clubs.isEmpty()) {
            return 0;
        }
        long h = 17;
        for (int b : balances()) {
            h = h * 31 + b;
            h ^= h >>> 13;
        }
        return h;
    }

    // ---- clubs among each other

    int met(int club) {
        if (!isClub(club)) {
            return -1;
        }
        int bits = 0;
        for (int other = 0; other < clubs.size(); other++) {
            for (Tie t : state.ties) {
                if (t.first == club && t.second == other || t.second == club && t.first == other) {
                    bits |= 1 << other;
                }
            }
        }
        return bits;
    }

    private int[][] distances() {
        int n = clubs.size();
        int[][] d = new int[n][n];
        for (int i = 0; i < n; i++) {
            for (int j = 0; j < n; j++) {
                d[i][j] = i == j ? 0 : (met(i) >> j & 1) == 1 ? 1 : 1000;
            }
        }
        for (int k = 0; k < n; k++) {
            for (int i = 0; i < n; i++) {
                for (int j = 0; j < n; j++) {
                    d[i][j] = Math.min(d[i][j], d[i][k] + d[k][j]);
                }
            }
        }
        return d;
    }

    int chain(int from, int to) {
        if (!isClub(from) || !isClub(to)) {
            return -1;
        }
        int d = distances()[from][to];
        return d >= 1000 ? -2 : d;
    }

    int in(int cup) {
        if (!isCup(cup)) {
            return -1;
        }
        int bits = 0;
        for (int c = 0; c < clubs.size(); c++) {
            boolean was = false;
            boolean lost = false;
            for (Tie t : state.ties) {
                if (t.cup == cup && (t.first == c || t.second == c)) {
                    was = true;
                    lost |= t.loser() == c;
                }
            }
            bits |= was && !lost ? 1 << c : 0;
        }
        return bits;
    }

    int ranked(int i) {
        if (!isClub(i)) {
            return -1;
        }
        List<Integer> order = new ArrayList<>();
        for (int c = 0; c < clubs.size(); c++) {
            order.add(c);
        }
        order.sort((a, b) -> club(b, 3) - club(a, 3));
        return order.get(i);
    }

    int bands() {
        if (clubs.isEmpty()) {
            return -1;
        }
        int[][] d = distances();
        Set<Integer> leaders = new HashSet<>();
        for (int i = 0; i < d.length; i++) {
            int leader = 0;
            while (d[i][leader] >= 1000) {
                leader++;
            }
            leaders.add(leader);
        }
        return leaders.size();
    }

    // ---- what if

    int brings(int tie, int gate, int what) {
        if (!isTie(tie) || !between(0, gate, 99999) || !between(0, what, 2)) {
            return -1;
        }
        Tie t = state.ties.get(tie);
        return part(t, cups.get(t.cup), t.games.size(), gate, what);
    }

    int least(int tie, int n, int what) {
        if (!isTie(tie) || n < 0 || !between(0, what, 2)) {
            return -1;
        }
        // brings() tells no more than the GATE
        for (int gate = n; gate <= 99999; gate++) {
            if (brings(tie, gate, what) >= n) {
                return gate;
            }
        }
        return -2;
    }

    int byCup(int tie, int cup, int what) {
        if (!isTie(tie) || !isCup(cup) || !between(0, what, 2)) {
            return -1;
        }
        Tie t = state.ties.get(tie);
        int sum = 0;
        for (int g = 0; g < t.games.size(); g++) {
            sum += part(t, cups.get(cup), g, t.games.get(g)[0], what);
        }
        return sum;
    }

    int fairest(int tie) {
        if (!isTie(tie)) {
            return -1;
        }
        int best = 0;
        for (int c = 1; c < cups.size(); c++) {
            if (apart(tie, c) < apart(tie, best)) {
                best = c;
            }
        }
        return best;
    }

    private int apart(int tie, int cup) {
        return Math.abs(byCup(tie, cup, 0) - byCup(tie, cup, 1));
    }

    int tempt(int tie, int gate, int what) {
        if (!isTie(tie) || !between(0, gate, 99999) || !between(0, what, 1)) {
            return Integer.MIN_VALUE;
        }
        Tie t = state.ties.get(tie).copy();
        Cup c = cups.get(t.cup);
        int n = t.games.size();
        return part(t, c, n, gate / 2, what) + part(t, c, n + 1, gate - gate / 2, what) - part(t, c, n, gate, what);
    }

    int ifGate(int tie, int game, int gate) {
        if (!isGame(tie, game) || !between(0, gate, 99999)) {
            return -1;
        }
        State real = state;
        state = state.copy();
        state.ties.get(tie).games.get(game)[0] = gate;
        int sum = 0;
        for (int c = 0; c < clubs.size(); c++) {
            sum += club(c, 8);
        }
        state = real;
        return sum;
    }

    int count(int what) {
        int games = 0;
        int decided = 0;
        for (Tie t : state.ties) {
            games += t.games.size();
            decided += t.winner() != -2 ? 1 : 0;
        }
        int[] row = {clubs.size(), cups.size(), state.ties.size(), games, decided, state.closed.size(),
            undos.size(), tape.length()};
        return between(0, what, 7) ? row[what] : -1;
    }
}
