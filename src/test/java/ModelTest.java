import java.util.NoSuchElementException;
import java.util.Random;

/** Random runs of calls with fixed seeds: BeggarHeaps and PlainModel must answer alike. */
public final class ModelTest {
    private static final String[] WORDS = {"kind", "pays", "pack", "lay", "first", "bet", "limit", "under", "about",
        "high", "low", "halves", "left", "right", "nobody", "opening", "won", "not", "and", "or", "ahead", "more",
        "heaps", "turns", "a", "b", "c", "plain", "knave", "toolongword", "12345", "(", ")", "<", "=", "+", "-", "*",
        ",", ";", "?", "A", "0", "1", "3", "7", "12", "13", "24", "1000", "9999"};
    private static final String[] NAMES = {"a", "b", "plain", "knave", "queen", "kings", "aces", "more"};
    private static final String[] LAYS = {"under", "about", "high", "low", "halves"};

    private final Random random;
    private final BeggarHeaps x = new BeggarHeaps();
    private final PlainModel m = new PlainModel();
    private final int run;
    private int kinds;

    private ModelTest(int run) {
        this.run = run;
        random = new Random(run * 7919L + 5);
    }

    public static void main(String[] args) {
        int runs = args.length > 0 ? Integer.parseInt(args[0]) : 700;
        int from = args.length > 1 ? Integer.parseInt(args[1]) : 0;
        for (int run = from; run < from + runs && Checks.allFine(); run++) {
            new ModelTest(run).go();
        }
        Checks.finish("ModelTest");
    }

    private int below(int n) {
        return random.nextInt(n);
    }

    private void due(String call, long want, long got) {
        Checks.due("run " + run + ": " + call, want, got);
    }

    private void feed(String text) {
        for (int i = 0; i < text.length(); i += 24) {
            long[] p = Checks.packed(text, i);
            due("feed", m.feed(p[0], p[1], p[2]), x.feed(p[0], p[1], p[2]));
        }
    }

    private void go() {
        tellTable();
        for (int i = 0; i < 200 && Checks.allFine(); i++) {
            step();
            if (below(4) == 0) {
                compareAll();
            }
        }
    }

    private void compareAll() {
        for (int i = -1; i < 20; i++) {
            due("count(" + i + ")", m.count(i), x.count(i));
        }
        for (int side = -1; side < 3; side++) {
            due("unseen", m.unseen(side), x.unseen(side));
            for (int i = -1; i < 30; i++) {
                due("card(" + side + ", " + i + ")", m.card(side, i), x.card(side, i));
            }
        }
        for (int i = -1; i < 42; i++) {
            due("heap", m.heap(i), x.heap(i));
            for (int what = -1; what < 5; what++) {
                due("taken", m.taken(i, what), x.taken(i, what));
            }
        }
        for (int k = -1; k < 9; k++) {
            for (int what = -1; what < 6; what++) {
                due("kind", m.kind(k, what), x.kind(k, what));
            }
        }
        for (int what = -1; what < 5; what++) {
            due("ends(" + what + ")", m.ends(what), x.ends(what));
            due("opening(" + what + ")", m.opening(what), x.opening(what));
        }
        due("offer()", m.offer(), x.offer());
        dueOrders();
    }

    private void dueOrders() {
        int want;
        int got;
        try {
            want = m.orders();
        } catch (NoSuchElementException e) {
            want = -7;
        }
        try {
            got = x.orders();
        } catch (NoSuchElementException e) {
            got = -7;
        }
        due("orders()", want, got);
    }

    private void step() {
        switch (below(30)) {
            case 0: if (below(6) == 0) tellTable(); break;
            case 1: if (below(2) == 0) tellDeal(); break;
            case 2: tellBook(); break;
            case 3: case 4: case 5: case 6: turn(below(4) == 0 ? 1 + below(60) : 1 + below(5)); break;
            case 7: turn(below(3) == 0 ? below(1100) - 5 : 2); break;
            case 8: case 9: { int s = below(5) - 1; due("slip", m.slip(s) ? 1 : 0, x.slip(s) ? 1 : 0); break; }
            case 10: due("undo", m.undo() ? 1 : 0, x.undo() ? 1 : 0); break;
            case 11: if (below(3) == 0) due("again", m.again() ? 1 : 0, x.again() ? 1 : 0); break;
            case 12: { int s = below(10000); if (below(3) == 0) due("drawn", m.drawn(s) ? 1 : 0, x.drawn(s) ? 1 : 0); break; }
            case 13: { int a = below(6) - 1; boolean b = below(2) == 0; due("mark", m.mark(a, b) ? 1 : 0, x.mark(a, b) ? 1 : 0); break; }
            case 14: case 15: { int s = below(4) - 1; int c = below(40) - 2; due("bet", m.bet(s, c), x.bet(s, c)); break; }
            case 16: case 17: case 18: { int k = below(kinds + 2) - 1; due("comes", m.comes(k), x.comes(k)); dueOrders(); break; }
            case 19: if (below(3) == 0) due("clear", m.clear() ? 1 : 0, x.clear() ? 1 : 0); break;
            case 20: odds(); break;
            case 21: choices(); break;
            case 22: games(); break;
            case 23: if (below(4) == 0) studies(); break;
            case 24: wrongText(); break;
            default: turn(1); break;
        }
    }

    private void turn(int many) {
        due("turn(" + many + ")", m.turn(many), x.turn(many));
    }

    private void odds() {
        int hidden = m.unseen(0) + m.unseen(1);
        if (hidden > 7 && hidden <= 10 && below(10) > 0) {
            return;
        }
        for (int what = -1; what < 4; what++) {
            due("odds(" + what + ")", m.odds(what), x.odds(what));
            due("take(" + what + ")", m.take(what), x.take(what));
        }
    }

    private void choices() {
        int heaps = below(9) < 7 ? 1 + below(4) : below(9) - 1;
        for (int what = -2; what < 5; what++) {
            due("choice(" + heaps + ", " + what + ")", m.choice(heaps, what), x.choice(heaps, what));
        }
        int h = below(7) - 1;
        due("both(" + h + ")", m.both(h), x.both(h));
    }

    private void games() {
        int seed = below(20) == 0 ? below(2) * 10001 - 1 : below(10000);
        int many = below(5) == 0 ? below(2) * 51 : 1 + below(12);
        for (int what = -1; what < 5; what++) {
            due("games(" + seed + ", " + many + ", " + what + ")", m.games(seed, many, what), x.games(seed, many, what));
        }
        int more = below(5) == 0 ? below(2) * 201 : 1 + below(20);
        for (int what = -2; what < 4; what++) {
            due("looked", m.looked(seed, more, what), x.looked(seed, more, what));
        }
    }

    private void studies() {
        int rows = m.all(0);
        for (int what = -1; what < 8; what++) {
            due("all(" + what + ")", m.all(what), x.all(what));
        }
        for (int what = -1; what < 4; what++) {
            due("beginner", m.beginner(what), x.beginner(what));
            int k = below(kinds + 2) - 1;
            due("worth", m.worth(k, what), x.worth(k, what));
            int pay = below(9) - 1;
            due("laws(" + k + ", " + pay + ", " + what + ")", m.laws(k, pay, what), x.laws(k, pay, what));
            int heaps = below(5) == 0 ? below(23) - 1 : 1 + below(4);
            for (int w = -1; w < 5; w++) {
                due("leads(" + heaps + ", " + w + ")", m.leads(heaps, w), x.leads(heaps, w));
            }
        }
        int number = rows <= 0 ? 0 : below(rows + 2) - 1;
        for (int i = -1; i < 11; i++) {
            due("row", m.row(number, i), x.row(number, i));
        }
    }

    // ---- texts

    private String name() {
        return kinds == 0 || below(60) == 0 ? "queen" : NAMES[below(kinds)];
    }

    private void tellTable() {
        StringBuilder b = new StringBuilder();
        int told = 1 + below(below(3) == 0 ? 8 : 4);
        int left = below(3) == 0 ? 24 : 4 + below(4);
        for (int k = 0; k < told; k++) {
            b.append("kind ").append(NAMES[k]).append(" pays ").append(below(2) == 0 ? 0 : 1 + below(below(2) == 0 ? 3 : 6)).append(" ;\n");
            int many = Math.min(left, below(left > 10 ? 12 : 5));
            if (below(5) > 0) {
                b.append("pack ").append(NAMES[k]).append(below(2) == 0 ? " " : "   ").append(many).append(';');
                left -= many;
            }
        }
        if (below(4) > 0) b.append("lay ").append(LAYS[below(5)]).append(';');
        if (below(2) > 0) b.append("first ").append(below(2) == 0 ? "left" : "right").append("; ");
        if (below(2) > 0) b.append("limit ").append(below(3) == 0 ? 10 + below(30) : 10 + below(400)).append(";");
        if (below(2) > 0) b.append("bet ").append(expression(0)).append(";");
        String text = spoil(b.toString());
        feed(text);
        int fault = m.table();
        due("table() of " + text, fault, x.table());
        if (fault == 0) {
            kinds = m.count(0);
            tellDeal();
        }
    }

    private String expression(int depth) {
        switch (below(depth > 5 ? 3 : 11)) {
            case 0: return "" + below(30);
            case 1: case 2: return new String[] {"ahead", "more", "heaps", "turns"}[below(4)];
            case 3: return "not " + expression(depth + 1);
            case 4: return "(" + expression(depth + 1) + ")";
            case 5: return expression(depth + 1) + " + " + expression(depth + 1);
            case 6: return expression(depth + 1) + "-" + expression(depth + 1);
            case 7: return expression(depth + 1) + "*" + expression(depth + 1);
            case 8: return expression(depth + 1) + " and " + expression(depth + 1);
            case 9: return expression(depth + 1) + " or " + expression(depth + 1);
            default: return expression(depth + 1) + (below(2) == 0 ? "<" : " = ") + expression(depth + 1);
        }
    }

    private String cards(int most) {
        StringBuilder b = new StringBuilder();
        for (int n = below(most + 1); n > 0; n--) {
            b.append(' ');
            if (below(5) == 0) b.append(1 + below(4));
            b.append(' ').append(name());
        }
        return b.toString();
    }

    private void tellDeal() {
        int most = below(4) == 0 ? 16 : 4;
        StringBuilder b = new StringBuilder();
        if (below(9) > 0) b.append("left").append(cards(most)).append(" ;");
        if (below(9) > 0) b.append("right").append(cards(most)).append(" ;");
        if (below(12) == 0) b.append("left").append(cards(most)).append(" ;");
        String text = spoil(b.toString());
        feed(text);
        due("deal() of " + text, m.deal(), x.deal());
    }

    private void tellBook() {
        StringBuilder b = new StringBuilder();
        for (int n = below(below(6) == 0 ? 15 : 5); n > 0; n--) {
            b.append("opening").append(cards(2)).append(" ,").append(cards(2)).append(" won ");
            b.append(new String[] {"left", "right", "nobody"}[below(3)]).append(" ;");
        }
        String text = spoil(b.toString());
        feed(text);
        due("book() of " + text, m.book(), x.book());
    }

    // Now and then a sign or a word of the text is another one, left out or put in.
    private String spoil(String text) {
        if (below(5) > 0) {
            return text;
        }
        StringBuilder b = new StringBuilder(text);
        int at = below(b.length() + 1);
        switch (below(4)) {
            case 0: b.insert(at, " " + WORDS[below(WORDS.length)] + " "); break;
            case 1: b.insert(at, (char) (32 + below(95))); break;
            case 2: if (at < b.length()) b.deleteCharAt(at); break;
            default: b.setLength(at); break;
        }
        return b.toString();
    }

    private void wrongText() {
        StringBuilder b = new StringBuilder();
        for (int n = below(12); n > 0; n--) {
            b.append(WORDS[below(WORDS.length)]).append(below(4) == 0 ? "" : " ");
        }
        String start = new String[] {"kind a pays 1 ; ", "left ", "opening ", "bet ", "pack ", ""}[below(6)];
        feed(start + b);
        switch (below(3)) {
            case 0: {
                int fault = m.table();
                due("table() of " + start + b, fault, x.table());
                kinds = m.count(0);
                break;
            }
            case 1: due("deal() of " + start + b, m.deal(), x.deal()); break;
            default: due("book() of " + start + b, m.book(), x.book()); break;
        }
    }
}
