import java.util.NoSuchElementException;

/** All that can be asked of an object, as one text: two objects that stand alike look alike. */
final class Looks {
    private Looks() { }

    interface Maker {
        BeggarHeaps make();
    }

    interface Asker {
        long ask(BeggarHeaps x);
    }

    /** What can be asked without a change. */
    static String at(BeggarHeaps x) {
        StringBuilder b = new StringBuilder();
        for (int what = -1; what <= 19; what++) {
            put(b, x.count(what));
        }
        for (int kind = 0; kind < x.count(0); kind++) {
            for (int what = 0; what <= 4; what++) {
                put(b, x.kind(kind, what));
            }
        }
        b.append(Checks.rowOf(x, 0)).append('|').append(Checks.rowOf(x, 1)).append('|');
        for (int i = 0; i <= x.count(4); i++) {
            put(b, x.heap(i));
        }
        for (int i = 0; i <= 40 && x.taken(i, 0) >= 0; i++) {
            for (int what = 0; what <= 3; what++) {
                put(b, x.taken(i, what));
            }
        }
        return b.append(foreseen(x)).toString();
    }

    private static String foreseen(BeggarHeaps x) {
        StringBuilder b = new StringBuilder();
        for (int what = 0; what <= 3; what++) {
            put(b, x.ends(what));
            put(b, x.opening(what));
        }
        for (int what = 0; what <= 2; what++) {
            put(b, x.odds(what));
        }
        for (int what = 0; what <= 6; what++) {
            put(b, x.all(what));
        }
        for (int side = 0; side <= 1; side++) {
            put(b, x.unseen(side));
            put(b, x.take(side));
        }
        for (int what = -1; what <= 3; what++) {
            put(b, x.choice(3, what));
        }
        put(b, x.both(2));
        put(b, x.offer());
        put(b, orders(x));
        return b.append(studied(x)).toString();
    }

    private static String studied(BeggarHeaps x) {
        StringBuilder b = new StringBuilder();
        for (int kind = 0; kind < x.count(0); kind++) {
            for (int what = 0; what <= 2; what++) {
                put(b, x.worth(kind, what));
                put(b, x.laws(kind, 0, what));
                put(b, x.laws(kind, 2, what));
            }
        }
        for (int what = 0; what <= 3; what++) {
            put(b, x.beginner(what));
            put(b, x.leads(1, what));
            put(b, x.leads(2, what));
            put(b, x.games(7, 3, what));
        }
        for (int what = -1; what <= x.count(1); what++) {
            put(b, x.looked(7, 9, what));
        }
        return b.toString();
    }

    /** All that is kept, too: what can be undone, the marks, what was dealt, the kinds by their names. It changes x. */
    static String deep(BeggarHeaps x) {
        StringBuilder b = new StringBuilder(at(x));
        for (int i = 0; i < 17 && x.undo(); i++) {
            b.append("\nundone ").append(at(x));
        }
        b.append("\nthe tape ").append(x.deal());
        b.append("\nagain ").append(x.again()).append(at(x));
        for (int mark = 0; mark <= 3; mark++) {
            boolean there = x.mark(mark, true);
            b.append("\nmark ").append(there).append(there ? at(x) : "");
            b.append("\nagain ").append(there ? x.again() + at(x) : "");
        }
        b.append("\ndealt ").append(Checks.deal(x, "left plain jack ; right ace plain ;")).append(at(x));
        b.append("\ndrawn ").append(x.drawn(12)).append(at(x));
        b.append("\nbooked ").append(Checks.book(x, "opening , jack won left ;")).append(at(x));
        return b.toString();
    }

    /** The call answers what is due, and all has stayed as in an object that was not asked. */
    static void stays(String call, long want, Maker maker, Asker asker) {
        BeggarHeaps x = maker.make();
        Checks.due(call, want, asker.ask(x));
        Checks.dueText("what stays after " + call, deep(maker.make()), deep(x));
    }

    /** orders(), or -7 if it throws what the document names. */
    static int orders(BeggarHeaps x) {
        try {
            return x.orders();
        } catch (NoSuchElementException e) {
            return -7;
        }
    }

    private static void put(StringBuilder b, int answer) {
        b.append(answer).append(' ');
    }
}
