/** The bounds that the document names for GAMES by hand, BETS, OPENINGS, COMES, MARKS; each sentence above its test. */
public final class BoundsOfGamesTest {
    // 0 a .. 5 f pay 1 .. 6; 6 p and 7 q pay nothing.
    private static final String KINDS = "kind a pays 1 ; kind b pays 2 ; kind c pays 3 ; kind d pays 4 ; kind e pays 5 ;"
        + " kind f pays 6 ; kind p pays 0 ; kind q pays 0 ; ";
    private static final int P = 6;

    public static void main(String[] args) {
        newGame();
        whoHasNone();
        payments();
        turnedRound();
        greatestHeap();
        leastHeaps();
        highAndLow();
        heapsKept();
        turnsOfACall();
        slipOfTwo();
        slipOfTwoWhileOwed();
        slipAbout();
        slipBeneath();
        undoOfSixteen();
        undoGoesRound();
        notByHand();
        again();
        coins();
        eightBets();
        whatComesBack();
        openings();
        comes();
        comesAndGoes();
        ordersAsBits();
        marks();
        marksHold();
        whatIsCounted();
        kindsAndCards();
        Checks.finish("BoundsOfGamesTest");
    }

    private static void due(String call, long want, long got) {
        Checks.due(call, want, got);
    }

    private static void due(String call, boolean want, boolean got) {
        Checks.due(call, want, got);
    }

    private static BeggarHeaps game(String deal) {
        return Checks.with(KINDS, deal);
    }

    private static BeggarHeaps laid(String order, String deal) {
        return Checks.with(KINDS + "lay " + order + " ; ", deal);
    }

    /** a p against p a, laid low: the first heap has 2 cards, each other one 3; it goes round for ever. */
    private static BeggarHeaps endless() {
        return laid("low", "left a p ; right p a ;");
    }

    private static void dueNewGame(BeggarHeaps x, int first) {
        int[] whats = {4, 5, 6, 7, 8, 9, 10, 11, 12, 14, 15};
        int[] dues = {0, first, 0, -1, 0, 0, -1, 100, 0, 0, 0};
        for (int i = 0; i < whats.length; i++) {
            due("a new game: count(" + whats[i] + ")", dues[i], x.count(whats[i]));
        }
        due("no heap", -1, x.heap(0));
        due("none kept", -1, x.taken(0, 0));
        due("none taken", -7, Looks.orders(x));
        due("all unseen", x.count(2) + x.count(3), x.unseen(0) + x.unseen(1));
    }

    /** "A GAME: no HEAP, nothing OWED, the SIDE of first is next, 100 coins in the purse, no BET." */
    private static void newGame() {
        dueNewGame(new BeggarHeaps(), 0);
        due("1000", 1000, new BeggarHeaps().count(16));
        due("under", 0, new BeggarHeaps().count(17));
        for (int first = 0; first <= 1; first++) {
            String side = first == 0 ? "left" : "right";
            BeggarHeaps x = Checks.with(KINDS + "pack a 2 ; pack p 3 ; first " + side + " ;", "left a p p ; right p p ;");
            dueNewGame(x, first);
            for (int how = 0; how < 3; how++) {
                x.bet(0, 60);
                x.turn(3);
                x.slip(1);
                x.comes(P);
                due("begun", true, how == 0 ? x.again() : how == 1 ? x.drawn(3) : Checks.deal(x, "left p ;") == 0);
                dueNewGame(x, first);
                due("no slip waits", how == 2 ? 1 : 3, x.count(2));
                due("no slip waits", true, x.slip(1));
            }
        }
    }

    /** "who has none has lost, the other one has WON"; "how many there were (fewer if it is WON)". */
    private static void whoHasNone() {
        BeggarHeaps x = game("");
        due("nobody has any: left is next", 0, x.turn(1));
        due("right has won", 1, x.count(10));
        x = Checks.with(KINDS + "first right ;", "");
        due("nobody has any: right is next", 0, x.turn(1));
        due("left has won", 0, x.count(10));
        x = game("left p ; right p ;");
        due("both cards", 2, x.turn(2));
        due("nobody yet", -1, x.count(10));
        due("left has none", 0, x.turn(1));
        due("right has won", 1, x.count(10));
        due("the cards stay on the heap", 2, x.count(4));
        x = game("left 2 p ; right p ;");
        due("all three", 3, x.turn(3));
        due("nobody yet", -1, x.count(10));
        due("right has none", 0, x.turn(1000));
        due("left has won", 0, x.count(10));
        x = game("left 2 p ; right p ;");
        due("three of four", 3, x.turn(4));
        due("left has won at once", 0, x.count(10));
        // Who has none but is not next has not lost.
        x = game("left p a ; right p ;");
        x.turn(2);
        due("right has none", 0, x.count(3));
        due("nobody yet", -1, x.count(10));
        x = game("left a p ; right p ;");
        x.turn(2);
        due("right paid his last one", 0, x.count(3));
        due("nobody yet", -1, x.count(10));
    }

    /** "If the card makes pay: so many are OWED by the other one, who is next" (0 to 6 of them). */
    private static void payments() {
        for (int pay = 1; pay <= 6; pay++) {
            char maker = (char) ('a' + pay - 1);
            BeggarHeaps x = game("left " + maker + " ; right " + pay + " p ;");
            x.turn(1);
            due("owed", pay, x.count(6));
            due("taker", 0, x.count(7));
            due("who pays is next", 1, x.count(5));
            if (pay > 1) {
                due("all but one", pay - 1, x.turn(pay - 1));
                due("one is owed", 1, x.count(6));
                due("who pays stays next", 1, x.count(5));
                due("not taken yet", 0, x.count(9));
            }
            due("the last one", 1, x.turn(1));
            due("nothing is owed", 0, x.count(6));
            due("no taker", -1, x.count(7));
            due("taken", 1, x.count(9));
            due("he is next", 0, x.count(5));
            due("beneath his row", pay + 1, x.count(2));
            x = game("left " + maker + " ; right " + (pay > 1 ? pay - 1 + " p" : "") + " ;");
            due("one too few", pay, x.turn(1000));
            due("left has won", 0, x.count(10));
            due("one is owed still", 1, x.count(6));
            x = game("left " + maker + " ; right " + (pay + 1) + " p ;");
            due("one more than owed", pay + 1, x.turn(pay + 1));
            due("it stays", 1, x.count(3));
        }
        BeggarHeaps x = game("left p ; right p ;");
        x.turn(1);
        due("pays 0 makes nothing pay", 0, x.count(6));
        due("the other one is next", 1, x.count(5));
    }

    /** "how often the payment was turned round (a card that makes pay, while some are OWED)": 0, 1, the last owed one. */
    private static void turnedRound() {
        BeggarHeaps x = game("left a p ; right p ;");
        x.turn(2);
        due("never", 0, x.taken(0, 3));
        x = game("left f p ; right 5 p a p ;");
        x.turn(6);
        due("one is owed", 1, x.count(6));
        x.turn(1);
        due("turned round with the last one", 1, x.count(6));
        due("right is taker", 1, x.count(7));
        due("left is next", 0, x.count(5));
        x.turn(1);
        due("right took it", 1, x.taken(0, 0));
        due("cards", 8, x.taken(0, 1));
        due("two make pay", 2, x.taken(0, 2));
        due("once", 1, x.taken(0, 3));
        // The next heap counts anew: a b b p p is left's with two, then f and its six.
        x = game("left a b f ; right b 8 p ;");
        x.turn(3);
        due("two are owed", 2, x.count(6));
        x.turn(2);
        due("twice", 2, x.taken(0, 3));
        x.turn(7);
        due("another heap", 7, x.taken(0, 1));
        due("never", 0, x.taken(0, 3));
        due("one makes pay", 1, x.taken(0, 2));
        due("the heap before", 2, x.taken(1, 3));
        // Twice turned round, not taken: another game counts anew, the mark and what is undone go on from there.
        x = game("left a b f p ; right b 8 p ;");
        x.turn(3);
        x.mark(0, false);
        Checks.deal(x, "left a p ; right p p ;");
        x.turn(2);
        due("never in the other game", 0, x.taken(0, 3));
        x.mark(0, true);
        x.turn(2);
        due("twice", 2, x.taken(0, 3));
        x.undo();
        due("none kept", -1, x.taken(0, 3));
        x.turn(2);
        due("twice", 2, x.taken(0, 3));
    }

    /** The most cards: "ROW: 0 to 24 cards" of both on one HEAP, and in one row. */
    private static void greatestHeap() {
        BeggarHeaps x = Checks.with(KINDS + "first right ;", "left 12 a 11 a p ; right 12 a 12 a ;");
        due("47 turns", 47, x.turn(47));
        due("on the heap", 47, x.count(4));
        due("the last of them", 0, x.heap(46));
        due("none behind it", -1, x.heap(47));
        due("47 of a kind", 47, x.kind(0, 4));
        due("the 48th", 1, x.turn(1));
        due("right took it", 1, x.taken(0, 0));
        due("48 cards", 48, x.taken(0, 1));
        due("47 make pay", 47, x.taken(0, 2));
        due("46 times", 46, x.taken(0, 3));
        due("all are right's", 48, x.count(3));
        due("the last one", P, x.card(1, 47));
        due("none behind it", -1, x.card(1, 48));
        due("47 of a kind", 47, x.kind(0, 3));
        due("one more turn", 1, x.turn(1000));
        due("right has won", 1, x.count(10));
        String a = "0".repeat(47);
        String[] orders = {"under", "about", "high", "low", "halves"};
        String[] dues = {a + "6", "6" + a, a + "6", "6" + a, a.substring(24) + "6" + a.substring(23)};
        for (int by = 0; by < 5; by++) {
            x = Checks.with(KINDS + "first right ; lay " + orders[by] + " ;", "left 12 a 11 a p ; right 12 a 12 a ;");
            x.turn(48);
            Checks.dueText("48 laid " + orders[by], dues[by], Checks.rowOf(x, 1));
        }
        x = game("left 12 p 12 p ; right 12 q 12 q ;");
        due("48 turns", 48, x.turn(1000));
        due("all on the heap", 48, x.count(4));
        due("the last one", 7, x.heap(47));
        due("none behind it", -1, x.heap(48));
        due("right has won", 1, x.count(10));
    }

    /** "halves: the second half (the lesser one of two unlike ones), then the first one"; heaps of 2, 3, 4, 5 cards. */
    private static void leastHeaps() {
        String[] orders = {"under", "about", "high", "low", "halves"};
        String[] deals = {"left a ; right p ;", "left p q ; right a ;", "left p a ; right q p ;", "left p q q ; right q a ;"};
        // As turned: a p; p a q; p q a p; p q q a q.
        String[][] dues = {
            {"06", "60", "06", "60", "60"},
            {"607", "706", "067", "670", "760"},
            {"6706", "6076", "0676", "6760", "0667"},
            {"67707", "70776", "06777", "67770", "07677"}};
        for (int i = 0; i < deals.length; i++) {
            for (int by = 0; by < 5; by++) {
                BeggarHeaps x = laid(orders[by], deals[i]);
                due("cards", i + 2, x.turn(i + 2));
                due("one heap", i + 2, x.taken(0, 1));
                Checks.dueText(orders[by] + " of " + deals[i], dues[i][by], Checks.rowOf(x, x.taken(0, 0)));
            }
        }
    }

    /** "high: ... the more the further ahead, of equal ones as under"; "low: the others ahead, then those that make pay, both as under". */
    private static void highAndLow() {
        String kinds = "kind a pays 1 ; kind b pays 1 ; kind c pays 6 ; kind d pays 5 ; kind p pays 0 ; kind q pays 0 ; ";
        String[] orders = {"high", "low"};
        // Turned: q p b c d a q.
        String[] dues = {"2310545", "5451230"};
        for (int i = 0; i < 2; i++) {
            BeggarHeaps x = Checks.with(kinds + "lay " + orders[i] + " ;", "left q b d q ; right p c a ;");
            x.turn(7);
            due("seven cards", 7, x.taken(0, 1));
            Checks.dueText(orders[i], dues[i], Checks.rowOf(x, 1));
        }
        BeggarHeaps x = Checks.with(kinds + "lay high ;", "left a a ; right b p ;");
        x.turn(4);
        Checks.dueText("equal ones as under", "0104", Checks.rowOf(x, 0));
        x = Checks.with(kinds + "lay high ;", "left b a ; right a q ;");
        x.turn(4);
        Checks.dueText("equal ones as under", "1005", Checks.rowOf(x, 0));
    }

    /** "A HEAP that was taken is kept (the last 40)"; "The i-th HEAP kept (0 the last one taken)". */
    private static void heapsKept() {
        for (int heaps : new int[] {0, 1, 39, 40, 41, 80, 81}) {
            BeggarHeaps x = endless();
            if (heaps > 0) {
                x.turn(2 + 3 * (heaps - 1));
            }
            due("taken", heaps, x.count(9));
            int kept = Math.min(heaps, 40);
            for (int i = 0; i < kept; i++) {
                int number = heaps - 1 - i;
                due("who took it", number % 2 == 0 ? 0 : 1, x.taken(i, 0));
                due("cards", number == 0 ? 2 : 3, x.taken(i, 1));
                due("make pay", 1, x.taken(i, 2));
            }
            for (int what = 0; what <= 3; what++) {
                due("none behind them", -1, x.taken(kept, what));
                due("none before them", -1, x.taken(-1, what));
            }
            due("what -1", -1, x.taken(0, -1));
            due("what 4", -1, x.taken(0, 4));
        }
    }

    /** "So many TURNS (1 to 1,000) by hand: how many there were (fewer if it is WON); NONE: others." */
    private static void turnsOfACall() {
        for (int many : new int[] {1, 2, 999, 1000}) {
            BeggarHeaps x = endless();
            due("so many", many, x.turn(many));
            due("turns", many, x.count(8));
            due("one to undo", 1, x.count(15));
        }
        for (int many : new int[] {Integer.MIN_VALUE, -1, 0, 1001, Integer.MAX_VALUE}) {
            BeggarHeaps x = endless();
            due("others", -1, x.turn(many));
            due("no turn", 0, x.count(8));
        }
        BeggarHeaps x = game("left 3 p ; right 2 p ;");
        due("five of five", 5, x.turn(5));
        due("nobody yet", -1, x.count(10));
        x.undo();
        due("five of six", 5, x.turn(6));
        due("won", 0, x.count(10));
    }

    /** "0: who is next, having two cards or more, turns two at once (two TURNS)". */
    private static void slipOfTwo() {
        due("no card", false, game("left ; right 3 p ;").slip(0));
        due("one card", false, game("left p ; right 3 p ;").slip(0));
        for (int cards = 2; cards <= 3; cards++) {
            BeggarHeaps x = game("left " + cards + " p ; right ;");
            due("two or more, the other one may have none", true, x.slip(0));
            due("two turns", 2, x.count(8));
            due("two less", cards - 2, x.count(2));
            due("both on the heap", 2, x.count(4));
            due("the other one is next", 1, x.count(5));
            due("one to undo", 1, x.count(15));
            due("nobody has won", -1, x.count(10));
        }
        BeggarHeaps x = game("left f a ; right 3 p ;");
        x.slip(0);
        due("the first one makes nothing pay", 1, x.count(6));
        x = game("left a p ; right 3 p ;");
        x.slip(0);
        due("nothing is owed", 0, x.count(6));
        due("right is next", 1, x.count(5));
        x = game("left p ; right p p ;");
        due("left has one", false, x.slip(0));
        x.turn(1);
        due("right has two", true, x.slip(0));
    }

    private static void slipOfTwoWhileOwed() {
        BeggarHeaps x = game("left a p ; right p q ;");
        x.turn(1);
        due("one is owed", true, x.slip(0));
        due("the second one pays it", 1, x.count(9));
        due("three cards", 3, x.taken(0, 1));
        Checks.dueText("laid as turned", "6067", Checks.rowOf(x, 0));
        x = game("left b p ; right p q p ;");
        x.turn(1);
        x.slip(0);
        due("one of two is owed", 1, x.count(6));
        due("right stays next", 1, x.count(5));
        x = game("left b p ; right a b p ;");
        x.turn(1);
        x.slip(0);
        due("by the second one", 2, x.count(6));
        due("right is taker", 1, x.count(7));
        x = game("left b p p ; right a b p ;");
        x.turn(1);
        x.slip(0);
        x.turn(2);
        due("turned round once", 1, x.taken(0, 3));
        due("three make pay", 3, x.taken(0, 2));
    }

    /** "1: the next HEAP that is taken is laid about, whatever the ORDER (it waits till then, once)". */
    private static void slipAbout() {
        for (String order : new String[] {"under", "about", "high", "low", "halves"}) {
            BeggarHeaps x = laid(order, "left p a p ; right q p q a q ;");
            due("it waits", true, x.slip(1));
            due("not twice", false, x.slip(1));
            due("one to undo", 1, x.count(15));
            x.turn(3);
            due("it still waits", false, x.slip(1));
            x.turn(1);
            Checks.dueText("about", "66076", Checks.rowOf(x, 0));
            due("it can wait anew when it is over", true, x.slip(1));
        }
        // The second heap is laid by the ORDER.
        BeggarHeaps x = laid("low", "left a a ; right p q ;");
        x.slip(1);
        x.turn(2);
        Checks.dueText("about: p a", "060", Checks.rowOf(x, 0));
        x.turn(2);
        Checks.dueText("low: q a", "6070", Checks.rowOf(x, 0));
        x = laid("under", "left a a ; right p q ;");
        x.slip(1);
        x.turn(4);
        Checks.dueText("under: a q", "6007", Checks.rowOf(x, 0));
        // Undone it waits no more; whoever takes the heap.
        x = laid("under", "left p p ; right a p ;");
        x.slip(1);
        x.undo();
        x.turn(3);
        Checks.dueText("under", "6606", Checks.rowOf(x, 1));
        x = laid("under", "left p q ; right a p ;");
        x.slip(1);
        x.turn(3);
        Checks.dueText("about", "6706", Checks.rowOf(x, 1));
        // Also a heap that is taken by a slip of two.
        x = laid("under", "left a p ; right p q ;");
        x.slip(1);
        x.turn(1);
        x.slip(0);
        Checks.dueText("about", "6760", Checks.rowOf(x, 0));
        due("without any card", true, game("").slip(1));
    }

    /** "2: the top card of who is next, who has two or more, comes beneath his row". */
    private static void slipBeneath() {
        due("no card", false, game("left ; right 3 p ;").slip(2));
        due("one card", false, game("left p ; right 3 p ;").slip(2));
        BeggarHeaps x = game("left a p ; right ;");
        due("two cards", true, x.slip(2));
        Checks.dueText("beneath", "60", Checks.rowOf(x, 0));
        due("no turn", 0, x.count(8));
        due("left stays next", 0, x.count(5));
        x = game("left a p q ; right b p q ;");
        due("three cards", true, x.slip(2));
        Checks.dueText("beneath", "670", Checks.rowOf(x, 0));
        x.turn(1);
        due("right is next", true, x.slip(2));
        Checks.dueText("right's", "671", Checks.rowOf(x, 1));
        Checks.dueText("left's stay", "70", Checks.rowOf(x, 0));
        x = game("left 12 p 12 q ; right ;");
        for (int i = 0; i < 24; i++) {
            due("24 cards", true, x.slip(2));
        }
        Checks.dueText("all round", "6".repeat(12) + "7".repeat(12), Checks.rowOf(x, 0));
        due("still unseen", 24, x.unseen(0));
    }

    /** "UNDO: what was done by hand since the GAME began ..., the last 16, one by one." */
    private static void undoOfSixteen() {
        for (int done : new int[] {0, 1, 15, 16, 17, 40}) {
            BeggarHeaps x = endless();
            for (int i = 0; i < done; i++) {
                x.turn(1);
            }
            int many = Math.min(done, 16);
            due("what can be undone", many, x.count(15));
            for (int i = 1; i <= many; i++) {
                due("undo", true, x.undo());
                BeggarHeaps y = endless();
                if (done > i) {
                    y.turn(done - i);
                }
                due("one less", many - i, x.count(15));
                due("turns", done - i, x.count(8));
                due("heaps", y.count(9), x.count(9));
                Checks.dueText("rows", Checks.rowOf(y, 0) + "/" + Checks.rowOf(y, 1), Checks.rowOf(x, 0) + "/" + Checks.rowOf(x, 1));
                due("the last heap", y.taken(0, 1), x.taken(0, 1));
            }
            due("nothing more", false, x.undo());
            due("turns stay", done - many, x.count(8));
        }
    }

    private static void undoGoesRound() {
        BeggarHeaps x = endless();
        for (int i = 0; i < 20; i++) {
            x.turn(1);
        }
        for (int i = 0; i < 5; i++) {
            x.undo();
        }
        due("15 turns", 15, x.count(8));
        for (int i = 0; i < 3; i++) {
            x.turn(2);
        }
        due("11 and 3", 14, x.count(15));
        for (int i = 1; i <= 3; i++) {
            x.undo();
            due("two turns each", 21 - 2 * i, x.count(8));
        }
        for (int i = 1; i <= 11; i++) {
            due("undo", true, x.undo());
            due("one turn each", 15 - i, x.count(8));
        }
        due("nothing more", false, x.undo());
        due("four turns can't be", 4, x.count(8));
        // Each kind of what is done by hand counts one.
        x = game("left p p p ; right p p ;");
        x.slip(0);
        x.slip(1);
        x.slip(2);
        x.bet(0, 1);
        x.turn(2);
        due("five", 5, x.count(15));
    }

    /** Only TURNS, SLIPS and BETS "by hand" can be undone. */
    private static void notByHand() {
        BeggarHeaps x = Checks.with(KINDS + "pack a 1 ; pack p 2 ;", "left a p ; right p p ;");
        x.turn(2);
        x.comes(0);
        x.clear();
        x.comes(0);
        x.mark(2, false);
        x.feed(0, 0, ' ');
        Checks.book(x, "opening , won left ;");
        Checks.book(x, "?");
        Checks.deal(x, "?");
        Checks.table(x, "?");
        x.ends(0);
        x.all(0);
        x.odds(0);
        x.choice(2, -1);
        x.games(1, 1, 0);
        due("one", 1, x.count(15));
        due("undo", true, x.undo());
        due("no turn", 0, x.count(8));
        due("the book stays", 1, x.count(13));
        due("nothing comes: no heap was taken", 0, x.count(14));
        due("nothing more", false, x.undo());
    }

    /** "The GAME begins anew with the rows as they were dealt: true; false: nothing was dealt." */
    private static void again() {
        BeggarHeaps x = new BeggarHeaps();
        due("new", false, x.again());
        Checks.table(x, KINDS);
        due("a table", false, x.again());
        Checks.deal(x, "left z ;");
        due("a deal with a fault", false, x.again());
        due("no card in the pack", false, x.drawn(1));
        due("nothing was dealt", false, x.again());
        Checks.deal(x, "");
        due("a deal of no card", true, x.again());
        Checks.deal(x, "left 12 p 12 p ; right 12 q 11 q a ;");
        String rows = Checks.rowOf(x, 0) + "/" + Checks.rowOf(x, 1);
        x.turn(1000);
        Checks.deal(x, "left z ;");
        due("again", true, x.again());
        Checks.dueText("the rows", rows, Checks.rowOf(x, 0) + "/" + Checks.rowOf(x, 1));
        due("twice", true, x.again());
        due("all unseen", 48, x.unseen(0) + x.unseen(1));
        Checks.table(x, KINDS);
        due("another table: nothing was dealt", false, x.again());
    }

    /** "coins on a SIDE, 1 to what the purse holds". */
    private static void coins() {
        for (int coins : new int[] {1, 2, 99, 100}) {
            BeggarHeaps x = game("left p ; right p ;");
            due("bet", 100 - coins, x.bet(1, coins));
            due("the coins are gone", 100 - coins, x.count(11));
            due("one bet", 1, x.count(12));
            due("one more than there are", -1, x.bet(0, 101 - coins));
            due("all of them", coins < 100 ? 0 : -1, x.bet(0, 100 - coins));
            due("none is left", -1, x.bet(0, 1));
        }
        for (int coins : new int[] {Integer.MIN_VALUE, -1, 0, 101, Integer.MAX_VALUE}) {
            BeggarHeaps x = game("left p ; right p ;");
            due("others", -1, x.bet(0, coins));
            due("no bet", 0, x.count(12));
        }
    }

    /** "8 at most in a GAME". */
    private static void eightBets() {
        BeggarHeaps x = game("left p ; right p ;");
        for (int i = 1; i <= 8; i++) {
            due("bet " + i, 100 - i, x.bet(i % 2, 1));
            due("bets", i, x.count(12));
        }
        due("no ninth", -1, x.bet(0, 1));
        due("eight", 8, x.count(12));
        due("one is undone", true, x.undo());
        due("seven", 7, x.count(12));
        due("its coin is back", 93, x.count(11));
        due("an eighth", 92, x.bet(1, 1));
        due("no ninth", -1, x.bet(1, 1));
        x.turn(1000);
        due("right has won: five bets", 92 + 5 * 2, x.count(11));
        due("eight are told still", 8, x.count(12));
        due("won", -1, x.bet(1, 1));
        x.again();
        due("another game: a bet", 99, x.bet(1, 1));
    }

    private static int purseAfter(int offer, int bets, int coins, int side) {
        BeggarHeaps x = Checks.with(KINDS + "bet " + offer + " ;", "left p ; right p ;");
        for (int i = 0; i < bets; i++) {
            x.bet(side, coins);
        }
        x.turn(2);
        due("not yet", 100 - bets * coins, x.count(11));
        x.turn(1);
        due("right has won", 1, x.count(10));
        return x.count(11);
    }

    /** "if the SIDE has WON they come back at once with the OFFER (by ten, cut)". */
    private static void whatComesBack() {
        due("1 at 0", 100, purseAfter(0, 1, 1, 1));
        due("1 at 9", 100, purseAfter(9, 1, 1, 1));
        due("1 at 10", 101, purseAfter(10, 1, 1, 1));
        due("1 at 19", 101, purseAfter(19, 1, 1, 1));
        due("1 at 20", 102, purseAfter(20, 1, 1, 1));
        due("9 at 1", 100, purseAfter(1, 1, 9, 1));
        due("10 at 1", 101, purseAfter(1, 1, 10, 1));
        due("11 at 9", 109, purseAfter(9, 1, 11, 1));
        due("100 at 99", 100 + 990, purseAfter(99, 1, 100, 1));
        due("100 at what is above 99", 100 + 990, purseAfter(100, 1, 100, 1));
        due("each is cut by itself", 100, purseAfter(1, 2, 5, 1));
        due("eight at 99", 100 + 8 * 9, purseAfter(99, 8, 1, 1));
        due("the other one has won", 0, purseAfter(99, 1, 100, 0));
        due("the other one has won", 92, purseAfter(99, 8, 1, 0));
        // At the OFFER of then, and undone with the turns that won.
        BeggarHeaps x = Checks.with(KINDS + "bet 10 * turns ;", "left p ; right p ;");
        x.bet(1, 10);
        x.turn(1);
        x.bet(1, 10);
        x.turn(1);
        x.bet(1, 10);
        due("won", 0, x.turn(1));
        due("10 at 0, 10 at 10, 10 at 20", 100 + 10 + 20, x.count(11));
        due("nothing comes twice", 0, x.turn(1));
        due("130", 130, x.count(11));
        due("undone", true, x.undo());
        due("70", 70, x.count(11));
        due("nobody has won", -1, x.count(10));
    }

    /** "those whose cards are the first ones of left's and right's rows as they were dealt". */
    private static void openings() {
        String book = "opening , won nobody ; opening 5 p , won left ; opening 6 p , won left ; opening , 6 q won right ;"
            + " opening 6 p , 6 q won right ; opening 5 p q , won left ;";
        int[][] dues = {{1, 0, 0, 1}, {1, 0, 0, 1}, {2, 1, 0, 1}, {3, 2, 0, 1}, {3, 2, 0, 1}};
        String[] deals = {"", "left 4 p ; right 5 q ;", "left 5 p ; right 5 q ;", "left 6 p ; right 5 q ;", "left 7 p ; right q p ;"};
        for (int i = 0; i < deals.length; i++) {
            BeggarHeaps x = game(deals[i]);
            Checks.book(x, book);
            for (int what = 0; what <= 3; what++) {
                due("opening(" + what + ") of " + deals[i], dues[i][what], x.opening(what));
            }
            due("what -1", -1, x.opening(-1));
            due("what 4", -1, x.opening(4));
        }
        BeggarHeaps x = game("left 6 p ; right 6 q ;");
        Checks.book(x, book);
        due("all but one", 5, x.opening(0));
        x.slip(2);
        x.turn(12);
        due("as they were dealt", 5, x.opening(0));
        x.again();
        due("as they were dealt", 5, x.opening(0));
        x = game("left 5 p q ; right 6 q ;");
        Checks.book(x, book);
        due("the sixth card is another one", 4, x.opening(0));
        x = Checks.with(KINDS + "pack p 12 ; pack q 0 ;", null);
        Checks.book(x, book);
        due("nothing was dealt", 1, x.opening(0));
        x.drawn(1);
        due("drawn is dealt", 3, x.opening(0));
        Checks.deal(x, "left z ;");
        due("a deal with a fault", 3, x.opening(0));
        due("no opening in a new book", 0, Checks.book(x, ""));
        due("none", 0, x.opening(0) + x.opening(1) + x.opening(2) + x.opening(3));
    }

    /** "(12 at most, no more than its cards ...)"; "NONE: others, no more can, no HEAP was taken in this GAME". */
    private static void comes() {
        BeggarHeaps x = game("left a p ; right p p ;");
        due("no heap", -1, x.comes(0));
        x.turn(1);
        due("not taken", -1, x.comes(0));
        x.turn(1);
        due("kind -1", -1, x.comes(-1));
        due("kind 8", -1, x.comes(8));
        due("kind 7", 1, x.comes(7));
        due("kind 0", 2, x.comes(0));
        due("no more than its cards", -1, x.comes(0));
        due("two", 2, x.count(14));
        // Heaps of 11, 12, 13 cards: so many plain ones each, a, and one that is paid.
        for (int cards = 10; cards <= 14; cards++) {
            int before = cards - 2;
            int lefts = before / 2 + before % 2;
            String deal = before % 2 == 0 ? "left " + lefts + " p a ; right " + before / 2 + " p p ;"
                : "left " + lefts + " p p ; right " + before / 2 + " p a p ;";
            x = game(deal);
            x.turn(cards);
            due("a heap of so many", cards, x.taken(0, 1));
            for (int i = 1; i <= Math.min(12, cards); i++) {
                due("comes", i, x.comes(P));
            }
            due("no more", -1, x.comes(P));
            due("what came", Math.min(12, cards), x.count(14));
            due("clear", true, x.clear());
            due("nothing", 0, x.count(14));
            due("anew", 1, x.comes(P));
        }
    }

    /** "nothing any more when another one is taken"; "Nothing COMES any more: true". */
    private static void comesAndGoes() {
        BeggarHeaps x = game("left a a p ; right p p p p ;");
        due("clear", true, x.clear());
        x.turn(2);
        x.comes(0);
        x.comes(P);
        x.turn(1);
        due("it is there while a heap is turned", 2, x.count(14));
        x.turn(1);
        due("another one is taken", 0, x.count(14));
        due("all orders", 31, Looks.orders(x));
        x.comes(P);
        due("clear", true, x.clear());
        due("clear", true, x.clear());
        due("nothing", 0, x.count(14));
        x.comes(P);
        x.again();
        due("another game", 0, x.count(14));
        due("another game", -1, x.comes(0));
        due("another game", -7, Looks.orders(x));
        x.turn(2);
        due("taken anew", 31, Looks.orders(x));
        x.undo();
        due("the heap is undone", -7, Looks.orders(x));
        due("the heap is undone", -1, x.comes(0));
    }

    /** "ORDERS as bits", "from the top of the HEAP that was taken last as it was laid". */
    private static void ordersAsBits() {
        // Turned p q q a q: under 67707, about 70776, high 06777, low 67770, halves 07677.
        int[][] told = {{}, {6}, {7}, {0}, {1}, {6, 7, 7, 0}, {6, 7, 7, 7}, {7, 0, 7, 7, 6}, {0, 6}, {0, 7}, {0, 7, 6, 7, 6},
            {6, 7, 7, 0, 7}};
        int[] dues = {31, 1 + 8, 2, 4 + 16, 0, 1, 8, 2, 4, 16, 0, 1};
        for (String order : new String[] {"under", "halves"}) {
            for (int i = 0; i < told.length; i++) {
                BeggarHeaps x = laid(order, "left p q q ; right q a ;");
                x.turn(4);
                due("not taken yet", -7, Looks.orders(x));
                x.turn(1);
                for (int kind : told[i]) {
                    x.comes(kind);
                }
                due("orders by " + i, dues[i], Looks.orders(x));
            }
        }
        // It is not asked by what it was laid: a slip changes nothing.
        BeggarHeaps x = laid("under", "left p q q ; right q a ;");
        x.slip(1);
        x.turn(5);
        due("all", 31, Looks.orders(x));
        x.comes(x.card(1, 0));
        x.comes(x.card(1, 1));
        due("about", 2, Looks.orders(x));
    }

    /** "MARKS 0 to 3"; "A MARK is laid (back: gone back to): true; false: none such, nothing is on it (back)". */
    private static void marks() {
        for (int mark = 0; mark <= 3; mark++) {
            BeggarHeaps x = endless();
            due("nothing is on it", false, x.mark(mark, true));
            x.turn(mark + 1);
            due("laid", true, x.mark(mark, false));
            due("undo stays", 1, x.count(15));
            x.turn(10);
            for (int other = 0; other <= 3; other++) {
                due("only there", other == mark, x.mark(other, true));
            }
            due("back", mark + 1, x.count(8));
            due("nothing can be undone", 0, x.count(15));
            due("nothing can be undone", false, x.undo());
            x.turn(5);
            due("undone after it", true, x.undo());
            due("the mark's", mark + 1, x.count(8));
            due("no further", false, x.undo());
        }
        BeggarHeaps x = endless();
        for (int mark : new int[] {Integer.MIN_VALUE, -1, 4, Integer.MAX_VALUE}) {
            due("none such", false, x.mark(mark, false));
            due("none such", false, x.mark(mark, true));
        }
        for (int mark = 0; mark <= 3; mark++) {
            x.turn(1);
            due("all four", true, x.mark(mark, false));
        }
        for (int mark = 3; mark >= 0; mark--) {
            due("back", true, x.mark(mark, true));
            due("each its own", mark + 1, x.count(8));
        }
        x.turn(7);
        x.mark(2, false);
        x.again();
        x.mark(2, true);
        due("laid over", 8, x.count(8));
        due("on a new object, too", true, new BeggarHeaps().mark(0, false));
    }

    /** "hold the GAME with its HEAPS kept, BETS, what COMES". */
    private static void marksHold() {
        marksHoldBets();
        for (int turns : new int[] {1, 2, 5, 125, 126}) {
            BeggarHeaps x = endless();
            x.bet(0, 7);
            x.turn(turns);
            x.comes(P);
            x.slip(1);
            x.mark(3, false);
            String was = Looks.at(x);
            x.turn(100);
            x.bet(1, 8);
            x.clear();
            if (turns % 2 == 0) {
                Checks.deal(x, "left p ; right q ;");
                x.turn(1000);
            }
            x.mark(3, true);
            Checks.dueText("as it was", was.replaceFirst(" 3 1000 3 ", " 0 1000 3 "), Looks.at(x));
            due("the slip waits", false, x.slip(1));
        }
        BeggarHeaps x = Checks.with(KINDS + "lay low ; bet 3 * turns ;", "left a p ; right p a ;");
        for (int i = 0; i < 4; i++) {
            x.bet(i / 2, 5 + i);
            x.turn(33);
        }
        x.comes(P);
        x.comes(0);
        x.mark(1, false);
        String was = Looks.at(x).replaceFirst(" 8 1000 3 ", " 0 1000 3 ");
        // All places taken by another game.
        Checks.deal(x, "left 2 a 2 p ; right 3 p ;");
        for (int i = 0; i < 8; i++) {
            x.bet(1 - i / 4, 9 - i);
        }
        x.turn(2);
        x.comes(1);
        x.comes(1);
        x.turn(1000);
        due("back", true, x.mark(1, true));
        Checks.dueText("as it was", was, Looks.at(x));
        x = game("left p ; right ;");
        x.turn(2);
        x.mark(0, false);
        x.again();
        due("nobody", -1, x.count(10));
        x.mark(0, true);
        due("won in the mark", 0, x.count(10));
        due("no turn", 0, x.turn(1));
        // The rows as they were dealt go with the game.
        x = game("left a p q ; right q p a ;");
        x.turn(2);
        x.mark(2, false);
        Checks.deal(x, "left 2 q ; right 4 p ;");
        Checks.book(x, "opening a , won left ; opening , q won right ; opening , p won nobody ;");
        due("the other deal", 1, x.opening(3));
        x.mark(2, true);
        due("by the mark's deal", 2, x.opening(0));
        due("again", true, x.again());
        Checks.dueText("left as dealt", "067", Checks.rowOf(x, 0));
        Checks.dueText("right as dealt", "760", Checks.rowOf(x, 1));
    }

    private static void marksHoldBets() {
        // 10 on right at 30, 20 on left at 30: right wins.
        BeggarHeaps x = Checks.with(KINDS + "bet 10 * turns ;", "left 3 p ; right 3 p ;");
        x.turn(3);
        x.bet(1, 10);
        x.bet(0, 20);
        x.mark(0, false);
        x.again();
        for (int i = 0; i < 8; i++) {
            x.bet(i % 2, 2);
        }
        x.mark(0, true);
        x.turn(1000);
        due("right has won", 1, x.count(10));
        due("70 and 10 and 30", 110, x.count(11));
        // Likewise undone.
        x.undo();
        due("70", 70, x.count(11));
        x.undo();
        x.turn(1000);
        due("70 and 10 and 30", 110, x.count(11));
        // A mark of nothing dealt, and back from it.
        x = new BeggarHeaps();
        x.mark(0, false);
        Checks.deal(x, "");
        due("dealt", true, x.again());
        x.mark(0, true);
        due("nothing was dealt in the mark", false, x.again());
    }

    /** "NONE for another what." */
    private static void whatIsCounted() {
        BeggarHeaps x = new BeggarHeaps();
        for (int what : new int[] {Integer.MIN_VALUE, -2, -1, 19, 20, Integer.MAX_VALUE}) {
            due("count(" + what + ")", -1, x.count(what));
        }
        due("count(0)", 0, x.count(0));
        due("count(18)", 1, x.feed(' ', 0, 0) * x.count(18));
        // TAKER only while something is OWED; HEAPS beyond what is kept.
        x = endless();
        due("no taker", -1, x.count(7));
        x.turn(1);
        due("left", 0, x.count(7));
        x.turn(1);
        due("no taker", -1, x.count(7));
        x.turn(2);
        due("right", 1, x.count(7));
        x.turn(1);
        x.turn(300);
        due("heaps taken", 102, x.count(9));
        due("turns", 305, x.count(8));
    }

    /** "kind", "card", "heap": "NONE: others". */
    private static void kindsAndCards() {
        BeggarHeaps x = Checks.with(KINDS + "pack q 3 ;", "left a p q ; right q q ;");
        int[] dues = {0, 3, 1, 2, 0};
        for (int what = 0; what <= 4; what++) {
            due("kind(7, " + what + ")", dues[what], x.kind(7, what));
        }
        for (int bad : new int[] {Integer.MIN_VALUE, -1, 5, Integer.MAX_VALUE}) {
            due("kind(7, " + bad + ")", -1, x.kind(7, bad));
        }
        for (int bad : new int[] {Integer.MIN_VALUE, -1, 8, Integer.MAX_VALUE}) {
            due("kind(" + bad + ", 0)", -1, x.kind(bad, 0));
        }
        for (int bad : new int[] {Integer.MIN_VALUE, -1, 2, Integer.MAX_VALUE}) {
            due("card(" + bad + ", 0)", -1, x.card(bad, 0));
            due("unseen(" + bad + ")", -1, x.unseen(bad));
        }
        due("left's last", 7, x.card(0, 2));
        due("left's none", -1, x.card(0, 3));
        due("right's last", 7, x.card(1, 1));
        due("right's none", -1, x.card(1, 2));
        due("before the first", -1, x.card(1, -1));
        due("no heap", -1, x.heap(0));
        x.turn(1);
        due("the first turned", 0, x.heap(0));
        due("no second", -1, x.heap(1));
        due("before the first", -1, x.heap(-1));
        due("on the heap", 1, x.kind(0, 4));
        due("not in the row", 0, x.kind(0, 2));
        x.turn(1);
        due("taken", -1, x.heap(0));
        due("not on the heap", 0, x.kind(0, 4));
        due("an empty row", -1, x.card(1, 1));
    }
}
