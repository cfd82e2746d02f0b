import java.util.ArrayDeque;
import java.util.ArrayList;
import java.util.Arrays;
import java.util.Collections;
import java.util.HashMap;
import java.util.List;
import java.util.Map;
import java.util.NoSuchElementException;
import java.util.TreeSet;

/**
 * The document once more, in another form and without a thought of speed: texts are cut into lists, rows are lists
 * of cards, states are texts in a map, all is worked out anew at each call. ModelTest lets both answer the same calls.
 */
final class PlainModel {
    static final int NONE = -1;
    static final List<String> LAYS = List.of("under", "about", "high", "low", "halves");
    static final List<String> SIDES = List.of("left", "right", "nobody");
    static final List<String> FACTS = List.of("ahead", "more", "heaps", "turns");
    static final List<String> NO_NAMES = List.of("kind", "pays", "pack", "lay", "first", "bet", "limit", "under",
        "about", "high", "low", "halves", "left", "right", "nobody", "opening", "won", "not", "and", "or");

    record Token(String text, int place) {
        boolean isNumber() { return text.matches("[0-9]{1,4}"); }
        boolean isWord() { return text.matches("[a-z]{1,8}"); }
        boolean isName() { return isWord() && !NO_NAMES.contains(text); }
        int number() { return Integer.parseInt(text); }
    }

    static final class Fault extends RuntimeException {
        final int code;
        Fault(int kind, Token token) { code = kind + 16 * token.place(); }
    }

    record Card(int kind, boolean seen) { }
    record Kept(int who, int cards, int makers, int rounds) { }
    record Bet(int side, int coins, int offer) { }
    record Opening(List<Integer> left, List<Integer> right, int who) { }
    record End(int result, int turns, int heaps, int round) { }

    interface Expr { int of(State s); }

    static final class Laws {
        final List<String> names = new ArrayList<>();
        final List<Integer> pays = new ArrayList<>();
        final Map<Integer, Integer> pack = new HashMap<>();
        Integer lay;
        Integer first;
        Integer limit;
        Expr bet;
        int cards() { return pack.values().stream().mapToInt(x -> x).sum(); }
        int order() { return lay == null ? 0 : lay; }
        int beginner() { return first == null ? 0 : first; }
        int most() { return limit == null ? 1000 : limit; }
        List<Integer> packRow() {
            List<Integer> row = new ArrayList<>();
            for (int k = 0; k < names.size(); k++) row.addAll(Collections.nCopies(pack.getOrDefault(k, 0), k));
            return row;
        }
    }

    static final class State {
        final List<List<Card>> rows = List.of(new ArrayList<>(), new ArrayList<>());
        final List<Integer> heap = new ArrayList<>();
        List<Integer> pays;
        int next, owed, taker, turned, heaps, rounds, won = NONE;
        boolean waiting;
        final List<Kept> kept = new ArrayList<>();
        List<Integer> last = new ArrayList<>();
        final List<Integer> comes = new ArrayList<>();
        final List<Bet> bets = new ArrayList<>();
        int purse = 100;
        List<List<Integer>> dealt;

        State copy() {
            State s = new State();
            s.rows.get(0).addAll(rows.get(0));
            s.rows.get(1).addAll(rows.get(1));
            s.heap.addAll(heap);
            s.pays = pays;
            s.next = next; s.owed = owed; s.taker = taker; s.turned = turned; s.heaps = heaps; s.rounds = rounds;
            s.won = won; s.waiting = waiting;
            s.kept.addAll(kept);
            s.last = last;
            s.comes.addAll(comes);
            s.bets.addAll(bets);
            s.purse = purse;
            s.dealt = dealt;
            return s;
        }

        static List<Integer> laid(List<Integer> heap, int order, List<Integer> pays) {
            List<Integer> out = new ArrayList<>(heap);
            if (order == 1) Collections.reverse(out);
            if (order == 2) out.sort((a, b) -> pays.get(b) - pays.get(a));
            if (order == 3) out.sort((a, b) -> Integer.signum(pays.get(a)) - Integer.signum(pays.get(b)));
            if (order == 4) Collections.rotate(out, heap.size() / 2);
            return out;
        }

        /** False: who is next has none. */
        boolean turnOne(int orderOfLeft, int orderOfRight) {
            List<Card> row = rows.get(next);
            if (row.isEmpty()) {
                won = 1 - next;
                for (Bet b : bets) if (b.side() == won) purse += b.coins() + b.coins() * b.offer() / 10;
                return false;
            }
            int kind = row.remove(0).kind();
            heap.add(kind);
            turned++;
            if (pays.get(kind) > 0) {
                if (owed > 0) rounds++;
                owed = pays.get(kind);
                taker = next;
                next = 1 - next;
            } else if (owed > 1) {
                owed--;
            } else if (owed == 1) {
                owed = 0;
                takeHeap(taker == 0 ? orderOfLeft : orderOfRight);
            } else {
                next = 1 - next;
            }
            return true;
        }

        private void takeHeap(int order) {
            int makers = (int) heap.stream().filter(k -> pays.get(k) > 0).count();
            kept.add(0, new Kept(taker, heap.size(), makers, rounds));
            if (kept.size() > 40) kept.remove(40);
            last = new ArrayList<>(heap);
            comes.clear();
            for (int k : laid(heap, waiting ? 1 : order, pays)) rows.get(taker).add(new Card(k, true));
            waiting = false;
            heap.clear();
            rounds = 0;
            heaps++;
            next = taker;
        }

        String picture() {
            StringBuilder b = new StringBuilder();
            for (List<Card> row : rows) {
                for (Card c : row) b.append(c.kind());
                b.append('/');
            }
            return b.append(next).toString();
        }

        int paySum(int side) { return rows.get(side).stream().mapToInt(c -> pays.get(c.kind())).sum(); }
    }

    private final StringBuilder tape = new StringBuilder();
    private Laws laws = new Laws();
    private List<Opening> openings = new ArrayList<>();
    private State game;
    private final ArrayDeque<State> past = new ArrayDeque<>();
    private final State[] marks = new State[4];
    private List<Token> tokens;
    private int at;

    PlainModel() { game = start(null, laws.beginner(), laws.pays); }

    private static State start(List<List<Integer>> dealt, int first, List<Integer> pays) {
        State s = new State();
        s.dealt = dealt;
        s.pays = pays;
        s.next = first;
        for (int side = 0; dealt != null && side < 2; side++) {
            for (int k : dealt.get(side)) s.rows.get(side).add(new Card(k, false));
        }
        return s;
    }

    private void newGame(List<List<Integer>> dealt) {
        game = start(dealt, laws.beginner(), laws.pays);
        past.clear();
    }

    int feed(long a, long b, long c) {
        for (long x : new long[] {a, b, c}) {
            for (int i = 7; i >= 0; i--) {
                char sign = (char) (x >> 8 * i & 0xff);
                if ((sign == '\n' || sign >= ' ' && sign <= '~') && tape.length() < 1000) tape.append(sign);
            }
        }
        return tape.length();
    }

    // ---- reading

    private void cut() {
        tokens = new ArrayList<>();
        at = 0;
        java.util.regex.Matcher m = java.util.regex.Pattern.compile("[a-z]+|[0-9]+|[^ \n]").matcher(tape);
        while (m.find()) tokens.add(new Token(m.group(), m.start()));
        tokens.add(new Token("", tape.length()));
        tape.setLength(0);
    }

    private Token look() { return tokens.get(at); }

    private Token want(String text) {
        Token t = look();
        if (!t.text().equals(text)) throw new Fault(1, t);
        at++;
        return t;
    }

    private Token wantName() {
        Token t = look();
        if (!t.isName()) throw new Fault(1, t);
        at++;
        return t;
    }

    private int wantNumber(int least, int most) {
        Token t = look();
        if (!t.isNumber()) throw new Fault(1, t);
        if (t.number() < least || t.number() > most) throw new Fault(4, t);
        at++;
        return t.number();
    }

    private int wantOneOf(List<String> words) {
        Token t = look();
        if (!words.contains(t.text())) throw new Fault(1, t);
        at++;
        return words.indexOf(t.text());
    }

    int table() {
        cut();
        Laws told = new Laws();
        try {
            while (!look().text().isEmpty()) tableLine(told);
        } catch (Fault f) {
            return f.code;
        }
        laws = told;
        openings = new ArrayList<>();
        Arrays.fill(marks, null);
        newGame(null);
        return 0;
    }

    private void tableLine(Laws told) {
        Token t = look();
        at++;
        switch (t.text()) {
            case "kind" -> {
                if (told.names.size() == 8) throw new Fault(5, t);
                Token name = wantName();
                if (told.names.contains(name.text())) throw new Fault(3, name);
                want("pays");
                int pays = wantNumber(0, 6);
                told.names.add(name.text());
                told.pays.add(pays);
            }
            case "pack" -> {
                Token name = wantName();
                int kind = told.names.indexOf(name.text());
                if (kind < 0) throw new Fault(2, name);
                if (told.pack.containsKey(kind)) throw new Fault(3, name);
                Token n = look();
                int many = wantNumber(0, 12);
                if (told.cards() + many > 24) throw new Fault(4, n);
                told.pack.put(kind, many);
            }
            case "lay" -> {
                if (told.lay != null) throw new Fault(3, t);
                told.lay = wantOneOf(LAYS);
            }
            case "first" -> {
                if (told.first != null) throw new Fault(3, t);
                told.first = wantOneOf(SIDES.subList(0, 2));
            }
            case "limit" -> {
                if (told.limit != null) throw new Fault(3, t);
                told.limit = wantNumber(10, 3000);
            }
            case "bet" -> {
                if (told.bet != null) throw new Fault(3, t);
                told.bet = e(0);
            }
            default -> throw new Fault(1, t);
        }
        want(";");
    }

    private Expr e(int depth) {
        Expr left = test(depth);
        while (look().text().equals("and") || look().text().equals("or")) {
            boolean and = look().text().equals("and");
            at++;
            Expr a = left;
            Expr b = test(depth);
            left = s -> (and ? a.of(s) != 0 & b.of(s) != 0 : a.of(s) != 0 | b.of(s) != 0) ? 1 : 0;
        }
        return left;
    }

    private Expr test(int depth) {
        Expr a = sum(depth);
        String sign = look().text();
        if (!sign.equals("<") && !sign.equals("=")) return a;
        at++;
        Expr b = sum(depth);
        return sign.equals("<") ? s -> a.of(s) < b.of(s) ? 1 : 0 : s -> a.of(s) == b.of(s) ? 1 : 0;
    }

    private Expr sum(int depth) {
        Expr left = product(depth);
        while (look().text().equals("+") || look().text().equals("-")) {
            int by = look().text().equals("+") ? 1 : -1;
            at++;
            Expr a = left;
            Expr b = product(depth);
            left = s -> a.of(s) + by * b.of(s);
        }
        return left;
    }

    private Expr product(int depth) {
        Expr left = part(depth);
        while (look().text().equals("*")) {
            at++;
            Expr a = left;
            Expr b = part(depth);
            left = s -> a.of(s) * b.of(s);
        }
        return left;
    }

    private Expr part(int depth) {
        Token t = look();
        boolean can = t.isNumber() || FACTS.contains(t.text()) || t.text().equals("not") || t.text().equals("(");
        if (!can) throw new Fault(1, t);
        if (depth > 4) throw new Fault(5, t);
        at++;
        if (t.isNumber()) return s -> t.number();
        switch (t.text()) {
            case "ahead": return s -> s.rows.get(0).size() - s.rows.get(1).size();
            case "more": return s -> s.paySum(0) - s.paySum(1);
            case "heaps": return s -> s.heaps;
            case "turns": return s -> s.turned;
            case "not": {
                Expr of = part(depth + 1);
                return s -> of.of(s) == 0 ? 1 : 0;
            }
            default: {
                Expr of = e(depth + 1);
                want(")");
                return of;
            }
        }
    }

    private List<Integer> wantRow(int most) {
        List<Integer> row = new ArrayList<>();
        while (look().isNumber() || look().isName()) {
            int times = look().isNumber() ? wantNumber(1, 12) : 1;
            Token name = wantName();
            int kind = laws.names.indexOf(name.text());
            if (kind < 0) throw new Fault(2, name);
            row.addAll(Collections.nCopies(times, kind));
            if (row.size() > most) throw new Fault(5, name);
        }
        return row;
    }

    int deal() {
        cut();
        List<List<Integer>> told = new ArrayList<>(Arrays.asList(null, null));
        try {
            while (!look().text().isEmpty()) {
                Token t = look();
                int side = wantOneOf(SIDES.subList(0, 2));
                if (told.get(side) != null) throw new Fault(3, t);
                told.set(side, wantRow(24));
                want(";");
            }
        } catch (Fault f) {
            return f.code;
        }
        told.replaceAll(row -> row == null ? List.of() : row);
        newGame(told);
        return 0;
    }

    int book() {
        cut();
        List<Opening> told = new ArrayList<>();
        try {
            while (!look().text().isEmpty()) {
                Token t = want("opening");
                if (told.size() == 12) throw new Fault(5, t);
                List<Integer> left = wantRow(6);
                want(",");
                List<Integer> right = wantRow(6);
                want("won");
                told.add(new Opening(left, right, wantOneOf(SIDES)));
                want(";");
            }
        } catch (Fault f) {
            return f.code;
        }
        openings = told;
        return 0;
    }

    // ---- the game by hand

    private boolean isKind(int kind) { return kind >= 0 && kind < laws.names.size(); }

    private static boolean isIn(int x, int least, int most) { return x >= least && x <= most; }

    int kind(int kind, int what) {
        if (!isKind(kind)) return NONE;
        switch (what) {
            case 0: return laws.pays.get(kind);
            case 1: return laws.pack.getOrDefault(kind, 0);
            case 2: case 3: return (int) game.rows.get(what - 2).stream().filter(c -> c.kind() == kind).count();
            case 4: return Collections.frequency(game.heap, kind);
            default: return NONE;
        }
    }

    int card(int side, int i) {
        if (!isIn(side, 0, 1) || !isIn(i, 0, game.rows.get(side).size() - 1)) return NONE;
        return game.rows.get(side).get(i).kind();
    }

    int heap(int i) { return isIn(i, 0, game.heap.size() - 1) ? game.heap.get(i) : NONE; }

    int taken(int i, int what) {
        if (!isIn(i, 0, game.kept.size() - 1)) return NONE;
        Kept k = game.kept.get(i);
        switch (what) {
            case 0: return k.who();
            case 1: return k.cards();
            case 2: return k.makers();
            case 3: return k.rounds();
            default: return NONE;
        }
    }

    private void byHand() {
        past.push(game.copy());
        if (past.size() > 16) past.removeLast();
    }

    int turn(int many) {
        if (!isIn(many, 1, 1000)) return NONE;
        if (game.won != NONE) return 0;
        byHand();
        int turned = 0;
        while (turned < many && game.turnOne(laws.order(), laws.order())) turned++;
        return turned;
    }

    boolean slip(int slip) {
        if (game.won != NONE || !isIn(slip, 0, 2)) return false;
        List<Card> row = game.rows.get(game.next);
        if (slip == 1 ? game.waiting : row.size() < 2) return false;
        byHand();
        if (slip == 0) {
            game.heap.add(row.remove(0).kind());
            game.turned++;
            game.turnOne(laws.order(), laws.order());
        } else if (slip == 1) {
            game.waiting = true;
        } else {
            row.add(row.remove(0));
        }
        return true;
    }

    boolean undo() {
        if (past.isEmpty()) return false;
        game = past.pop();
        return true;
    }

    boolean again() {
        if (game.dealt == null) return false;
        newGame(game.dealt);
        return true;
    }

    // ---- how it ends

    private End end(State from, int order, int limit) {
        State s = from.copy();
        s.bets.clear();
        Map<String, int[]> seen = new HashMap<>();
        for (int t = 0; t <= limit; t++) {
            if (s.heap.isEmpty() && !s.waiting) {
                int[] old = seen.putIfAbsent(s.picture(), new int[] {t, s.heaps - from.heaps});
                if (old != null && t > 0) return new End(2, old[0], old[1], t - old[0]);
            }
            if (s.rows.get(s.next).isEmpty()) return new End(1 - s.next, t, s.heaps - from.heaps, 0);
            if (t < limit) s.turnOne(order, order);
        }
        return new End(3, limit, s.heaps - from.heaps, 0);
    }

    int ends(int what) {
        if (!isIn(what, 0, 3)) return NONE;
        End e = end(game, laws.order(), laws.most());
        return new int[] {e.result(), e.turns(), e.heaps(), e.round()}[what];
    }

    // ---- all rows

    private static long ways(List<Integer> cards) {
        long n = 1;
        for (int i = 2; i <= cards.size(); i++) n *= i;
        for (int k = 0; k < 8; k++) for (int i = 2; i <= Collections.frequency(cards, k); i++) n /= i;
        return n;
    }

    private static boolean few(List<Integer> cards) { return cards.size() <= 10 && ways(cards) <= 20000; }

    private static void spread(List<Integer> rest, List<Integer> row, List<List<Integer>> into) {
        if (rest.isEmpty()) into.add(new ArrayList<>(row));
        for (int k : new TreeSet<>(rest)) {
            List<Integer> less = new ArrayList<>(rest);
            less.remove(Integer.valueOf(k));
            row.add(k);
            spread(less, row, into);
            row.remove(row.size() - 1);
        }
    }

    private static List<List<Integer>> unlike(List<Integer> cards) {
        List<List<Integer>> into = new ArrayList<>();
        spread(cards, new ArrayList<>(), into);
        return into;
    }

    /** null: it can't be asked. */
    private List<List<Integer>> allRows() {
        List<Integer> row = laws.packRow();
        return row.isEmpty() || !few(row) ? null : unlike(row);
    }

    private static List<List<Integer>> halves(List<Integer> row) {
        int left = row.size() - row.size() / 2;
        return List.of(new ArrayList<>(row.subList(0, left)), new ArrayList<>(row.subList(left, row.size())));
    }

    private End endOf(List<Integer> row, int first, List<Integer> pays) {
        return end(start(halves(row), first, pays), laws.order(), laws.most());
    }

    int all(int what) {
        List<List<Integer>> rows = allRows();
        if (rows == null || !isIn(what, 0, 6)) return NONE;
        int[] found = {rows.size(), 0, 0, 0, 0, 0, NONE};
        for (int n = 0; n < rows.size(); n++) {
            End e = endOf(rows.get(n), laws.beginner(), laws.pays);
            found[1 + e.result()]++;
            if (e.result() < 2 && (found[6] < 0 || e.turns() > found[5])) {
                found[5] = e.turns();
                found[6] = n;
            }
        }
        return found[what];
    }

    int row(int number, int i) {
        List<List<Integer>> rows = allRows();
        if (rows == null || !isIn(number, 0, rows.size() - 1) || !isIn(i, 0, laws.cards() - 1)) return NONE;
        return rows.get(number).get(i);
    }

    int beginner(int what) {
        List<List<Integer>> rows = allRows();
        if (rows == null || !isIn(what, 0, 2)) return NONE;
        int found = 0;
        for (List<Integer> row : rows) {
            for (int first = 0; first < 2; first++) {
                int r = endOf(row, first, laws.pays).result();
                int is = r == first ? 0 : r == 1 - first ? 1 : 2;
                if (is == what) found++;
            }
        }
        return found;
    }

    int worth(int kind, int what) {
        List<List<Integer>> rows = allRows();
        if (rows == null || !isKind(kind) || !isIn(what, 0, 1)) return NONE;
        int found = 0;
        for (List<Integer> row : rows) {
            List<List<Integer>> h = halves(row);
            if (Collections.frequency(h.get(0), kind) <= Collections.frequency(h.get(1), kind)) continue;
            if (what == 1 || endOf(row, laws.beginner(), laws.pays).result() == 0) found++;
        }
        return found;
    }

    int leads(int heaps, int what) {
        List<List<Integer>> rows = allRows();
        if (rows == null || !isIn(heaps, 1, 20) || !isIn(what, 0, 3)) return NONE;
        int found = 0;
        for (List<Integer> row : rows) {
            State s = start(halves(row), laws.beginner(), laws.pays);
            int t = 0;
            while (t < laws.most() && s.heaps < heaps && s.turnOne(laws.order(), laws.order())) t++;
            if (s.heaps < heaps) continue;
            int lead = what < 2 ? s.rows.get(0).size() - s.rows.get(1).size() : s.paySum(0) - s.paySum(1);
            if (lead == 0) continue;
            boolean wins = endOf(row, laws.beginner(), laws.pays).result() == (lead > 0 ? 0 : 1);
            if (what % 2 == 1 || wins) found++;
        }
        return found;
    }

    int laws(int kind, int pays, int what) {
        List<List<Integer>> rows = allRows();
        if (rows == null || !isKind(kind) || !isIn(pays, 0, 6) || !isIn(what, 0, 2)) return NONE;
        List<Integer> other = new ArrayList<>(laws.pays);
        other.set(kind, pays);
        int sum = 0;
        int over = 0;
        int round = 0;
        for (List<Integer> row : rows) {
            End e = endOf(row, laws.beginner(), other);
            if (e.result() < 2) {
                sum += e.turns();
                over++;
            }
            if (e.result() == 2) round++;
        }
        if (what == 2) return round;
        if (over == 0) return what;
        int d = java.math.BigInteger.valueOf(sum).gcd(java.math.BigInteger.valueOf(over)).intValue();
        return (what == 0 ? sum : over) / d;
    }

    // ---- odds and bets

    int unseen(int side) {
        return isIn(side, 0, 1) ? (int) game.rows.get(side).stream().filter(c -> !c.seen()).count() : NONE;
    }

    /** null: too many. */
    private int[] chances() {
        List<Integer> hidden = new ArrayList<>();
        for (List<Card> row : game.rows) for (Card c : row) if (!c.seen()) hidden.add(c.kind());
        if (!few(hidden)) return null;
        int[] found = new int[3];
        for (List<Integer> way : unlike(hidden)) {
            State s = game.copy();
            int used = 0;
            for (List<Card> row : s.rows) {
                for (int i = 0; i < row.size(); i++) if (!row.get(i).seen()) row.set(i, new Card(way.get(used++), false));
            }
            int r = end(s, laws.order(), laws.most()).result();
            if (r < 2) found[r]++;
            found[2]++;
        }
        return found;
    }

    int odds(int what) {
        int[] found = chances();
        return found == null || !isIn(what, 0, 2) ? NONE : found[what];
    }

    int offer() { return laws.bet == null ? 10 : Math.max(0, Math.min(99, laws.bet.of(game))); }

    int bet(int side, int coins) {
        if (!isIn(side, 0, 1) || !isIn(coins, 1, game.purse) || game.won != NONE || game.bets.size() == 8) return NONE;
        byHand();
        game.bets.add(new Bet(side, coins, offer()));
        game.purse -= coins;
        return game.purse;
    }

    int take(int side) {
        int[] found = chances();
        if (found == null || !isIn(side, 0, 1)) return NONE;
        return found[side] * offer() > (found[2] - found[side]) * 10 ? 1 : 0;
    }

    // ---- laying by choice

    /** The first of left's orders, by number, with which he has WON while no more than so many HEAPS are taken. */
    private List<Integer> plan(State from, int more) {
        for (int by = 0; by < 5; by++) {
            State s = from.copy();
            int before = s.heaps;
            boolean on = true;
            while (on && s.heaps == before) on = s.turnOne(by, laws.order());
            if (!on) return s.won == 0 ? new ArrayList<>() : null;
            if (more == 0) return null;
            List<Integer> rest = plan(s, more - 1);
            boolean lefts = s.kept.get(0).who() == 0;
            if (rest != null) {
                if (lefts) rest.add(0, by);
                return rest;
            }
            if (!lefts) return null;
        }
        return null;
    }

    int choice(int heaps, int what) {
        if (!isIn(heaps, 1, 6) || what < -1 || game.waiting) return NONE;
        State s = game.copy();
        s.bets.clear();
        for (int k = 0; k <= heaps; k++) {
            List<Integer> plan = plan(s, k);
            if (plan != null) return what == NONE ? k : what < plan.size() ? plan.get(what) : NONE;
        }
        return NONE;
    }

    private boolean sure(State from, int more) {
        State first = from.copy();
        boolean on = true;
        while (on && first.heaps == from.heaps) on = first.turnOne(0, 0);
        if (!on) return first.won == 0;
        if (more == 0) return false;
        boolean lefts = first.kept.get(0).who() == 0;
        int good = 0;
        for (int by = 0; by < 5; by++) {
            State s = from.copy();
            while (s.heaps == from.heaps) s.turnOne(by, by);
            if (sure(s, more - 1)) good++;
        }
        return lefts ? good > 0 : good == 5;
    }

    int both(int heaps) {
        if (!isIn(heaps, 1, 4) || game.waiting) return NONE;
        State s = game.copy();
        s.bets.clear();
        return sure(s, heaps) ? 1 : 0;
    }

    // ---- openings, what comes, draws, marks

    private static boolean begins(List<Integer> row, List<Integer> with) {
        return with.size() <= row.size() && row.subList(0, with.size()).equals(with);
    }

    int opening(int what) {
        if (!isIn(what, 0, 3)) return NONE;
        List<List<Integer>> dealt = game.dealt == null ? List.of(List.of(), List.of()) : game.dealt;
        int found = 0;
        for (Opening o : openings) {
            boolean fits = begins(dealt.get(0), o.left()) && begins(dealt.get(1), o.right());
            if (fits && (what == 0 || o.who() == what - 1)) found++;
        }
        return found;
    }

    int comes(int kind) {
        if (!isKind(kind) || game.heaps == 0 || game.comes.size() == Math.min(12, game.last.size())) return NONE;
        game.comes.add(kind);
        return game.comes.size();
    }

    int orders() {
        if (game.heaps == 0) throw new NoSuchElementException();
        int bits = 0;
        for (int by = 0; by < 5; by++) if (begins(State.laid(game.last, by, laws.pays), game.comes)) bits += 1 << by;
        return bits;
    }

    boolean clear() {
        game.comes.clear();
        return true;
    }

    private List<List<Integer>> drawRows(int seed, int many) {
        List<List<Integer>> out = new ArrayList<>();
        long g = seed;
        for (int n = 0; n < many; n++) {
            List<Integer> row = laws.packRow();
            for (int i = row.size() - 1; i >= 1; i--) {
                g = (g * 1103515245L + 12345) & 0x7fffffffL;
                Collections.swap(row, i, (int) ((g >> 16) % (i + 1)));
            }
            out.add(row);
        }
        return out;
    }

    boolean drawn(int seed) {
        if (!isIn(seed, 0, 9999) || laws.cards() == 0) return false;
        newGame(halves(drawRows(seed, 1).get(0)));
        return true;
    }

    int games(int seed, int many, int what) {
        if (!isIn(seed, 0, 9999) || !isIn(many, 1, 50) || !isIn(what, 0, 3) || laws.cards() == 0) return NONE;
        int[] found = new int[4];
        int longest = 0;
        for (List<Integer> row : drawRows(seed, many)) {
            End e = endOf(row, laws.beginner(), laws.pays);
            found[e.result()]++;
            if (e.result() < 2) longest = Math.max(longest, e.turns());
        }
        return what == 3 ? longest : found[what];
    }

    int looked(int seed, int many, int what) {
        if (!isIn(seed, 0, 9999) || !isIn(many, 1, 200) || what < -1 || laws.cards() == 0) return NONE;
        int number = 0;
        for (List<Integer> row : drawRows(seed, many)) {
            if (endOf(row, laws.beginner(), laws.pays).result() == 2) {
                return what == NONE ? number : what < row.size() ? row.get(what) : NONE;
            }
            number++;
        }
        return NONE;
    }

    boolean mark(int mark, boolean back) {
        if (!isIn(mark, 0, 3) || back && marks[mark] == null) return false;
        if (back) {
            game = marks[mark].copy();
            past.clear();
        } else {
            marks[mark] = game.copy();
        }
        return true;
    }

    int count(int what) {
        switch (what) {
            case 0: return laws.names.size();
            case 1: return laws.cards();
            case 2: return game.rows.get(0).size();
            case 3: return game.rows.get(1).size();
            case 4: return game.heap.size();
            case 5: return game.next;
            case 6: return game.owed;
            case 7: return game.owed == 0 ? NONE : game.taker;
            case 8: return game.turned;
            case 9: return game.heaps;
            case 10: return game.won;
            case 11: return game.purse;
            case 12: return game.bets.size();
            case 13: return openings.size();
            case 14: return game.comes.size();
            case 15: return past.size();
            case 16: return laws.most();
            case 17: return laws.order();
            case 18: return tape.length();
            default: return NONE;
        }
    }
}
