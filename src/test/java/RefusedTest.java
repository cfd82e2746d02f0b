/** Each call that the document refuses, in each state: it answers as told, and all that was there has stayed. */
public final class RefusedTest {
    private static final int MIN = Integer.MIN_VALUE;
    private static final int MAX = Integer.MAX_VALUE;
    private static final String KINDS = "kind ace pays 4 ; kind jack pays 1 ; kind plain pays 0 ; ";
    // Two jacks and three plain ones: ALL can be asked.
    private static final String TABLE = KINDS + "pack jack 2 ; pack plain 3 ; lay low ; bet 12 + turns - heaps ; limit 90 ;";
    private static final String DEAL = "left plain jack 2 plain jack ; right 2 plain jack plain ace 3 plain ;";
    private static final String BOOK = "opening plain jack , plain won right ; opening , 2 plain won nobody ;";
    private static final String[] STATES = {"new", "laid", "middle", "waiting", "won", "full"};

    public static void main(String[] args) {
        for (String state : STATES) {
            gamesByHand(state);
            whatIsAsked(state);
            whatIsDrawn(state);
            texts(state);
            askingChangesNothing(state);
        }
        onlyInSomeStates();
        noCardInThePack();
        tooManyRows();
        Checks.finish("RefusedTest");
    }

    private static BeggarHeaps make(String state) {
        BeggarHeaps x = new BeggarHeaps();
        if (state.equals("new")) {
            return x;
        }
        Checks.due("table", 0, Checks.table(x, state.equals("full") ? fullTable() : TABLE));
        Checks.due("book", 0, Checks.book(x, state.equals("full") ? fullBook() : BOOK));
        if (state.equals("laid")) {
            return x;
        }
        Checks.due("deal", 0, Checks.deal(x, state.equals("full") ? "left jack plain ; right plain jack ;" : DEAL));
        if (state.equals("full")) {
            fill(x);
            return x;
        }
        x.mark(1, false);
        x.bet(0, 9);
        x.turn(5);
        x.comes(2);
        x.bet(1, 20);
        x.mark(3, false);
        x.slip(2);
        if (state.equals("waiting")) {
            x.slip(1);
        }
        x.turn(1);
        if (state.equals("won")) {
            x.turn(1000);
            Checks.due("somebody has won", true, x.count(10) >= 0);
        }
        Checks.feed(x, "left plain jack ");
        return x;
    }

    private static String fullTable() {
        StringBuilder b = new StringBuilder(KINDS);
        for (char c = 'd'; c <= 'h'; c++) {
            b.append("kind ").append(c).append(" pays ").append(c - 'c').append(" ; ");
        }
        return b + "pack jack 12 ; pack plain 12 ; lay low ; limit 3000 ;";
    }

    private static String fullBook() {
        StringBuilder b = new StringBuilder();
        for (int i = 0; i < 12; i++) {
            b.append("opening 6 jack , 6 plain won left ; ");
        }
        return b.toString();
    }

    // 8 bets, 16 that can be undone, 40 heaps kept, all marks, all that can come, a full tape; the game goes round.
    private static void fill(BeggarHeaps x) {
        for (int i = 0; i < 8; i++) {
            x.bet(i % 2, i == 7 ? 93 : 1);
            x.mark(i % 4, false);
            x.turn(22);
        }
        for (int i = 0; i < x.taken(0, 1); i++) {
            x.comes(2);
        }
        for (int i = 0; i < 42; i++) {
            x.feed(0x3b3b3b3b3b3b3b3bL, 0x3b3b3b3b3b3b3b3bL, 0x3b3b3b3b3b3b3b3bL);
        }
        int[] full = {8, 24, -1, -1, -1, -1, -1, -1, 176, -1, -1, 0, 8, 12, 3, 16, 3000, 3, 1000};
        for (int what = 0; what < full.length; what++) {
            Checks.due("full: count(" + what + ")", full[what] < 0 ? x.count(what) : full[what], x.count(what));
        }
        Checks.due("full: 40 heaps kept", true, x.taken(39, 0) >= 0 && x.taken(40, 0) < 0);
    }

    private static void none(String state, String call, Looks.Asker asker) {
        Looks.stays(state + ": " + call, -1, () -> make(state), asker);
    }

    private static void refused(String state, String call, Looks.Asker asker) {
        Looks.stays(state + ": " + call, 0, () -> make(state), asker);
    }

    private static void gamesByHand(String state) {
        for (int many : new int[] {MIN, -1, 0, 1001, MAX}) {
            none(state, "turn(" + many + ")", x -> x.turn(many));
        }
        for (int slip : new int[] {MIN, -1, 3, MAX}) {
            refused(state, "slip(" + slip + ")", x -> x.slip(slip) ? 1 : 0);
        }
        for (int side : new int[] {MIN, -1, 2, MAX}) {
            none(state, "bet(" + side + ", 1)", x -> x.bet(side, 1));
        }
        for (int coins : new int[] {MIN, -1, 0, 101, MAX}) {
            none(state, "bet(0, " + coins + ")", x -> x.bet(0, coins));
        }
        none(state, "one coin more than the purse holds", x -> x.bet(1, x.count(11) + 1));
        for (int mark : new int[] {MIN, -1, 4, MAX}) {
            refused(state, "mark(" + mark + ", false)", x -> x.mark(mark, false) ? 1 : 0);
            refused(state, "mark(" + mark + ", true)", x -> x.mark(mark, true) ? 1 : 0);
        }
        for (int kind : new int[] {MIN, -1, 8, MAX}) {
            none(state, "comes(" + kind + ")", x -> x.comes(kind));
        }
        none(state, "comes of the kind behind the last", x -> x.comes(x.count(0)));
    }

    private static void whatIsAsked(String state) {
        for (int bad : new int[] {MIN, -2, -1, 25, MAX}) {
            none(state, "kind(" + bad + ", 0)", x -> x.kind(bad, 0));
            none(state, "kind(0, " + bad + ")", x -> x.kind(0, bad));
            none(state, "card(" + bad + ", 0)", x -> x.card(bad, 0));
            none(state, "card(0, " + bad + ")", x -> x.card(0, bad));
            none(state, "heap(" + bad + ")", x -> x.heap(bad));
            none(state, "taken(0, " + bad + ")", x -> x.taken(0, bad));
            none(state, "ends(" + bad + ")", x -> x.ends(bad));
            none(state, "all(" + bad + ")", x -> x.all(bad));
            none(state, "row(" + bad + ", 0)", x -> x.row(bad, 0));
            none(state, "row(0, " + bad + ")", x -> x.row(0, bad));
            none(state, "beginner(" + bad + ")", x -> x.beginner(bad));
            none(state, "worth(1, " + bad + ")", x -> x.worth(1, bad));
            none(state, "worth(" + bad + ", 0)", x -> x.worth(bad, 0));
            none(state, "leads(" + bad + ", 0)", x -> x.leads(bad, 0));
            none(state, "leads(1, " + bad + ")", x -> x.leads(1, bad));
            none(state, "laws(" + bad + ", 1, 0)", x -> x.laws(bad, 1, 0));
            none(state, "laws(1, " + bad + ", 0)", x -> x.laws(1, bad, 0));
            none(state, "laws(1, 1, " + bad + ")", x -> x.laws(1, 1, bad));
            none(state, "unseen(" + bad + ")", x -> x.unseen(bad));
            none(state, "odds(" + bad + ")", x -> x.odds(bad));
            none(state, "take(" + bad + ")", x -> x.take(bad));
            none(state, "choice(" + bad + ", -1)", x -> x.choice(bad, -1));
            none(state, "both(" + bad + ")", x -> x.both(bad));
            none(state, "opening(" + bad + ")", x -> x.opening(bad));
            none(state, "count(" + bad + ")", x -> x.count(bad));
        }
        for (int i : new int[] {MIN, -1, 40, MAX}) {
            none(state, "taken(" + i + ", 0)", x -> x.taken(i, 0));
        }
        for (int what : new int[] {MIN, -2, 6, MAX}) {
            none(state, "choice(2, " + what + ")", x -> x.choice(2, what));
        }
    }

    private static void whatIsDrawn(String state) {
        for (int seed : new int[] {MIN, -1, 10000, MAX}) {
            refused(state, "drawn(" + seed + ")", x -> x.drawn(seed) ? 1 : 0);
            none(state, "games(" + seed + ", 1, 0)", x -> x.games(seed, 1, 0));
            none(state, "looked(" + seed + ", 1, -1)", x -> x.looked(seed, 1, -1));
        }
        for (int many : new int[] {MIN, -1, 0, 51, MAX}) {
            none(state, "games(1, " + many + ", 0)", x -> x.games(1, many, 0));
        }
        for (int many : new int[] {MIN, -1, 0, 201, MAX}) {
            none(state, "looked(1, " + many + ", -1)", x -> x.looked(1, many, -1));
        }
        for (int what : new int[] {MIN, -1, 4, MAX}) {
            none(state, "games(1, 3, " + what + ")", x -> x.games(1, 3, what));
        }
        for (int what : new int[] {MIN, -2, 24, MAX}) {
            none(state, "looked(1, 30, " + what + ")", x -> x.looked(1, 30, what));
        }
    }

    /** "0, or its FAULT (all stays then)": the tape is taken, the rest is as it was. */
    private static void texts(String state) {
        String[] tables = {"?", "kind q pays 1 ; lay high ; first right ; limit 10 ; pack q 12 ; pack",
            "kind a pays 1 ; kind a pays 2 ;", "bet 1 ; kind q pays 7 ;", "bet not not not not not 1 ;", "limit 9 ;"};
        int[] tableFaults = {1, 1 + 16 * 68, 3 + 16 * 21, 4 + 16 * 20, 5 + 16 * 24, 4 + 16 * 6};
        for (int i = 0; i < tables.length; i++) {
            String text = tables[i];
            fault(state, "table() of " + text, tableFaults[i], x -> Checks.table(x, text));
        }
        String[] deals = {"?", "left ; left ;", "right ; left unheard ;", "right 13", "left", "left ; right"};
        int[] dealFaults = {1, 3 + 16 * 7, 2 + 16 * 13, 4 + 16 * 6, 1 + 16 * 4, 1 + 16 * 12};
        for (int i = 0; i < deals.length; i++) {
            String text = deals[i];
            fault(state, "deal() of " + text, dealFaults[i], x -> Checks.deal(x, text));
        }
        String[] books = {"?", "opening , won left ; opening unheard", "opening , won left", "opening , won left ; opening 0"};
        int[] bookFaults = {1, 2 + 16 * 29, 1 + 16 * 18, 4 + 16 * 29};
        for (int i = 0; i < books.length; i++) {
            String text = books[i];
            fault(state, "book() of " + text, bookFaults[i], x -> Checks.book(x, text));
        }
        if (!state.equals("new")) {
            fault(state, "rows half told", 5 + 16 * 39, x -> Checks.deal(x, "left jack ; right 12 plain 12 plain    jack"));
            fault(state, "openings half told", 5 + 16 * 37, x -> Checks.book(x, "opening jack , won right ; opening 7 plain"));
        }
    }

    private static void fault(String state, String call, long want, Looks.Asker asker) {
        Looks.stays(state + ": " + call, want, () -> withoutTape(state), asker);
    }

    private static BeggarHeaps withoutTape(String state) {
        BeggarHeaps x = make(state);
        x.feed(0x3f00000000000000L, 0, 0);
        Checks.due("the tape is taken", true, x.book() != 0 && x.count(18) == 0);
        return x;
    }

    private static void askingChangesNothing(String state) {
        Looks.stays(state + ": all that can be asked", 0, () -> make(state), x -> {
            for (int what = -1; what <= 24; what++) {
                askFor(x, what);
            }
            return 0;
        });
        Looks.stays(state + ": no sign that the tape takes", 0, () -> make(state), x -> x.feed(0, -1L, 0x090b1f7f80818283L) - x.count(18));
    }

    private static void askFor(BeggarHeaps x, int what) {
        x.ends(what);
        x.all(what);
        x.row(what, 0);
        x.beginner(what);
        x.worth(what, 1);
        x.leads(what, 1);
        x.laws(0, what, 0);
        x.unseen(what);
        x.odds(what);
        x.offer();
        x.take(what);
        x.choice(3, what);
        x.both(Math.min(what, 2));
        x.opening(what);
        x.games(what, 2, 0);
        x.looked(what, 2, -1);
        x.taken(what, 1);
        x.heap(what);
        Looks.orders(x);
    }

    private static void onlyInSomeStates() {
        refused("new", "undo: nothing can be", x -> x.undo() ? 1 : 0);
        refused("laid", "undo: nothing can be", x -> x.undo() ? 1 : 0);
        refused("new", "again: nothing was dealt", x -> x.again() ? 1 : 0);
        refused("laid", "again: nothing was dealt", x -> x.again() ? 1 : 0);
        for (int mark = 0; mark <= 3; mark++) {
            int m = mark;
            refused("laid", "mark(" + m + ", true): nothing is on it", x -> x.mark(m, true) ? 1 : 0);
        }
        refused("middle", "mark(0, true): nothing is on it", x -> x.mark(0, true) ? 1 : 0);
        refused("middle", "mark(2, true): nothing is on it", x -> x.mark(2, true) ? 1 : 0);
        refused("won", "turn(1): it is won", x -> x.turn(1));
        refused("won", "turn(1000): it is won", x -> x.turn(1000));
        for (int slip = 0; slip <= 2; slip++) {
            int s = slip;
            refused("won", "slip(" + s + "): it is won", x -> x.slip(s) ? 1 : 0);
            none("won", "bet: it is won", x -> x.bet(s & 1, 1));
        }
        refused("waiting", "slip(1): one waits", x -> x.slip(1) ? 1 : 0);
        none("waiting", "choice: a slip waits", x -> x.choice(1, -1));
        none("waiting", "choice: a slip waits", x -> x.choice(6, 0));
        none("waiting", "both: a slip waits", x -> x.both(1));
        none("full", "bet: 8 are there, and the purse is empty", x -> x.bet(0, 1));
        none("full", "comes: no more than its cards", x -> x.comes(2));
        Looks.stays("full: no sign more", 1000, () -> make("full"), x -> x.feed(-1L, 0x6c65667420202020L, 7));
        for (String state : new String[] {"new", "laid"}) {
            none(state, "comes: no heap was taken", x -> x.comes(0));
            Looks.stays(state + ": orders() throws", -7, () -> make(state), Looks::orders);
        }
        slipsWithOneCard();
    }

    private static void slipsWithOneCard() {
        String[] deals = {"left plain ; right 2 plain ;", "left ; right 2 plain ;", "left 2 jack ; right plain ;"};
        for (int i = 0; i < deals.length; i++) {
            String deal = deals[i];
            int turns = i;
            Looks.Maker maker = () -> {
                BeggarHeaps x = Checks.with(TABLE, deal);
                x.bet(0, 1);
                if (turns == 2) {
                    x.turn(1);
                }
                return x;
            };
            Looks.stays("slip(0) with too few: " + deal, 0, maker, x -> x.slip(0) ? 1 : 0);
            Looks.stays("slip(2) with too few: " + deal, 0, maker, x -> x.slip(2) ? 1 : 0);
        }
    }

    private static void noCardInThePack() {
        for (String text : new String[] {KINDS, KINDS + "pack ace 0 ; pack plain 0 ;", ""}) {
            Looks.Maker maker = () -> Checks.with(text, text.isEmpty() ? "" : DEAL);
            Looks.stays("drawn without a card", 0, maker, x -> x.drawn(0) ? 1 : 0);
            Looks.stays("games without a card", -1, maker, x -> x.games(0, 1, 0));
            Looks.stays("looked without a card", -1, maker, x -> x.looked(0, 1, -1));
            Looks.stays("looked without a card", -1, maker, x -> x.looked(0, 1, 0));
            notAll(maker);
        }
    }

    private static void tooManyRows() {
        notAll(() -> Checks.with(KINDS + "pack plain 11 ;", DEAL));
        notAll(() -> Checks.with(KINDS + "kind d pays 2 ; kind e pays 3 ; kind f pays 5 ; kind g pays 6 ; pack ace 2 ; pack jack 1 ;"
            + "pack plain 1 ; pack d 1 ; pack e 1 ; pack f 1 ; pack g 1 ;", DEAL));
    }

    private static void notAll(Looks.Maker maker) {
        for (int what = 0; what <= 6; what++) {
            int w = what;
            Looks.stays("all(" + w + ") can't be asked", -1, maker, x -> x.all(w));
            Looks.stays("row(0, " + w + ") can't be asked", -1, maker, x -> x.row(0, w));
            Looks.stays("beginner(" + w + ") can't be asked", -1, maker, x -> x.beginner(w));
            Looks.stays("worth(0, " + w + ") can't be asked", -1, maker, x -> x.worth(0, w));
            Looks.stays("leads(1, " + w + ") can't be asked", -1, maker, x -> x.leads(1, w));
            Looks.stays("laws(0, 1, " + w + ") can't be asked", -1, maker, x -> x.laws(0, 1, w));
        }
    }
}
