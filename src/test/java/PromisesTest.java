import java.util.NoSuchElementException;

/** Each promise of the document by hand: ordinary inputs, the edges that it names, wrong inputs. */
public final class PromisesTest {
    // 0 ace pays 4, 1 jack pays 1, 2 plain pays 0
    private static final String KINDS = "kind ace pays 4 ; kind jack pays 1 ; kind plain pays 0 ; ";
    private static final String SMALL = KINDS + "pack jack 1 ; pack plain 2 ; ";
    private static final int MIN = Integer.MIN_VALUE;
    private static final int MAX = Integer.MAX_VALUE;

    public static void main(String[] args) {
        promise1();
        promise2();
        promise3Kinds();
        promise3Pack();
        promise3Laws();
        promise3Bet();
        promise3Tokens();
        promise3Kept();
        promise4();
        promise5();
        promise6();
        promise7and8();
        promise9();
        promise10();
        promise11();
        promise12();
        promise13();
        promise14();
        promise14Round();
        promise14Limit();
        promise15and16();
        promise17();
        promise18();
        promise19();
        promise20();
        promise21and22();
        promise23();
        promise24();
        promise25();
        promise26();
        promise27();
        promise28();
        promise29to31();
        promise32to34();
        promise35();
        promise36();
        ordersOfLaying();
        Checks.finish("PromisesTest");
    }

    private static void due(String call, long want, long got) {
        Checks.due(call, want, got);
    }

    private static void due(String call, boolean want, boolean got) {
        Checks.due(call, want, got);
    }

    private static void dueFault(String text, int kind, int place) {
        due("table() of " + text, kind + 16 * place, Checks.table(new BeggarHeaps(), text));
    }

    private static void dueDealFault(String text, int kind, int place) {
        due("deal() of " + text, kind + 16 * place, Checks.deal(Checks.with(KINDS, null), text));
    }

    private static void dueBookFault(String text, int kind, int place) {
        due("book() of " + text, kind + 16 * place, Checks.book(Checks.with(KINDS, null), text));
    }

    private static BeggarHeaps game(String deal) {
        return Checks.with(KINDS, deal);
    }

    private static void promise1() {
        BeggarHeaps x = new BeggarHeaps();
        int[] atFirst = {0, 0, 0, 0, 0, 0, 0, -1, 0, 0, -1, 100, 0, 0, 0, 0, 1000, 0, 0};
        for (int what = 0; what < atFirst.length; what++) {
            due("new count(" + what + ")", atFirst[what], x.count(what));
        }
        due("NONE", -1, BeggarHeaps.NONE);
        due("new kind", -1, x.kind(0, 0));
        due("new offer", 10, x.offer());
        due("new again", false, x.again());
        due("new ends(0): left has none to turn", 1, x.ends(0));
        due("another object", 0, new BeggarHeaps().count(18));
    }

    private static void promise2() {
        BeggarHeaps x = new BeggarHeaps();
        due("nothing but 0 bytes", 0, x.feed(0, 0, 0));
        due("highest byte first", 8, x.feed(0x6c65667420202020L, 0, 0));
        due("read as left", 1 + 16 * 8, x.deal());
        due("the tape is taken", 0, x.count(18));
        due("signs 9, 11, 31, 127, 128, 255 are left out", 2, x.feed(0x090a0b1f7f80ff20L, 0, 0));
        due("10 32 .. 126", 7, x.feed(0, 0x20217e0000000000L, 0x0a00000000000061L));
        x = new BeggarHeaps();
        for (int i = 0; i < 41; i++) {
            due("feed", 24 * (i + 1), x.feed(0x2020202020202020L, 0x2020202020202020L, 0x2020202020202020L));
        }
        due("up to 1,000", 1000, x.feed(0x2020202020202020L, 0x2020202020202020L, 0x3b3b3b3b3b3b3b3bL));
        due("no more", 1000, x.feed(-1L, 0x6161616161616161L, MAX));
        due("1,000 blanks and none of the ; beyond", 0, x.table());
        x = new BeggarHeaps();
        for (int i = 0; i < 50; i++) {
            Checks.feed(x, "                        ");
        }
        due("blanks alone", 1000, x.count(18));
        due("a table of blanks", 0, x.table());
    }

    private static void promise3Kinds() {
        dueFault("", 0, 0);
        dueFault("kind a pays 0 ;", 0, 0);
        dueFault("kind a pays 6;kind b pays 0;", 0, 0);
        dueFault("kind a pays 7 ;", 4, 12);
        dueFault("kind a pays b ;", 1, 12);
        dueFault("kind a 3 ;", 1, 7);
        dueFault("kind a pays 3", 1, 13);
        dueFault("kind a pays 3 , ", 1, 14);
        dueFault("kind ; ", 1, 5);
        dueFault("kind 3 ; ", 1, 5);
        dueFault("kind", 1, 4);
        dueFault("kind a pays 1 ; kind a pays 1 ;", 3, 21);
        for (String word : "kind pays pack lay first bet limit under about high low halves left right nobody opening won not and or".split(" ")) {
            dueFault("kind " + word + " pays 1 ;", 1, 5);
        }
        for (String word : "ahead more heaps turns order side fault zzzzzzzz".split(" ")) {
            dueFault("kind " + word + " pays 1 ;", 0, 0);
        }
        String eight = "";
        for (char c = 'a'; c < 'i'; c++) {
            eight += "kind " + c + " pays 1;";
        }
        dueFault(eight, 0, 0);
        dueFault(eight + "kind i pays 1;", 5, eight.length());
        dueFault(eight + "kind ?", 5, eight.length());
        dueFault("table", 1, 0);
        dueFault(";", 1, 0);
        dueFault("left ;", 1, 0);
    }

    private static void promise3Pack() {
        String ab = "kind a pays 1;kind b pays 0;kind c pays 0;";
        int n = ab.length();
        dueFault(ab + "pack a 12; pack b 12;", 0, 0);
        dueFault(ab + "pack a 12; pack b 12; pack c 0;", 0, 0);
        dueFault(ab + "pack a 12; pack b 12; pack c 1;", 4, n + 29);
        dueFault(ab + "pack a 13;", 4, n + 7);
        dueFault(ab + "pack a 12; pack b 11; pack c 2;", 4, n + 29);
        dueFault(ab + "pack a 0; pack a 1;", 3, n + 15);
        dueFault(ab + "pack d 1;", 2, n + 5);
        dueFault("pack a 1; kind a pays 1;", 2, 5);
        dueFault(ab + "pack kind 1;", 1, n + 5);
        dueFault(ab + "pack a a;", 1, n + 7);
        dueFault(ab + "pack 3 a;", 1, n + 5);
        dueFault(ab + "pack a 3 3;", 1, n + 9);
    }

    private static void promise3Laws() {
        String[] orders = {"under", "about", "high", "low", "halves"};
        for (int i = 0; i < 5; i++) {
            BeggarHeaps x = Checks.with("lay " + orders[i] + ";", null);
            due("count(17) of " + orders[i], i, x.count(17));
        }
        dueFault("lay left;", 1, 4);
        dueFault("lay 0;", 1, 4);
        dueFault("lay low; lay low;", 3, 9);
        due("first right", 1, Checks.with("first right;", null).count(5));
        due("first left", 0, Checks.with("first left ;", null).count(5));
        dueFault("first nobody;", 1, 6);
        dueFault("first left; first ?", 3, 12);
        due("limit 10", 10, Checks.with("limit 10;", null).count(16));
        due("limit 3000", 3000, Checks.with("limit 3000;", null).count(16));
        due("limit 0010", 10, Checks.with("limit 0010;", null).count(16));
        dueFault("limit 9;", 4, 6);
        dueFault("limit 3001;", 4, 6);
        dueFault("limit 00010;", 1, 6);
        dueFault("limit;", 1, 5);
        dueFault("limit 10; limit 10;", 3, 10);
        dueFault("bet 1; bet 1;", 3, 7);
    }

    private static int offerOf(String e) {
        // left: ace jack plain; right: plain
        return Checks.with(KINDS + "bet " + e + ";", "left ace jack plain; right plain;").offer();
    }

    private static void promise3Bet() {
        due("bet 0", 0, offerOf("0"));
        due("bet 9999", 99, offerOf("9999"));
        due("bet 0 - 1", 0, offerOf("0 - 1"));
        due("ahead", 2, offerOf("ahead"));
        due("more", 5, offerOf("more"));
        due("heaps", 0, offerOf("heaps"));
        due("turns", 0, offerOf("turns"));
        due("sums from the left", 5, offerOf("10 - 3 - 2"));
        due("products first", 14, offerOf("2 + 3 * 4"));
        due("brackets", 20, offerOf("(2 + 3) * 4"));
        due("less", 1, offerOf("2 < 3"));
        due("not less", 0, offerOf("3 < 3"));
        due("equal", 1, offerOf("1 + 2 = 3"));
        due("and", 1, offerOf("7 and 2"));
        due("and 0", 0, offerOf("7 and 0"));
        due("or", 1, offerOf("0 or 5"));
        due("or of none", 0, offerOf("0 or 0"));
        due("from the left: (1 or 0) and 0", 0, offerOf("1 or 0 and 0"));
        due("from the left: (0 and 0) or 1", 1, offerOf("0 and 0 or 1"));
        due("not binds a part", 2, offerOf("not 0 + 1"));
        due("not 5", 0, offerOf("not 5"));
        due("not not 5", 1, offerOf("not not 5"));
        due("ints wrap to 9000", 99, offerOf("9999*9999*9999*9999 + 9999*9999*9999*9999*0 + 99"));
        due("wraps to below 0", 0, offerOf("4096*2048*256"));
        due("wraps to 5", 5, offerOf("4096*4096*256 + 5"));
        dueFault("bet not not not not 1;", 0, 0);
        dueFault("bet not not not not not 1;", 5, 24);
        dueFault("bet ((((1))));", 0, 0);
        dueFault("bet (((((1)))));", 5, 9);
        dueFault("bet (((((;", 1, 9);
        dueFault("bet ((((((1))))));", 5, 9);
        dueFault("bet (not (not 1 + (2)));", 0, 0);
        dueFault("bet (not (not (not 1)));", 5, 15);
        dueFault("bet (((( 1 + not 1 ))));", 5, 17);
        dueFault("bet ;", 1, 4);
        dueFault("bet 1 < 2 < 3;", 1, 10);
        dueFault("bet 1 = 2 < 3;", 1, 10);
        dueFault("bet (1;", 1, 6);
        dueFault("bet 1);", 1, 5);
        dueFault("bet 1 2;", 1, 6);
        dueFault("bet -1;", 1, 4);
        dueFault("bet 1 +;", 1, 7);
        dueFault("bet 1 and;", 1, 9);
        dueFault("bet kind;", 1, 4);
        dueFault("bet word;", 1, 4);
        dueFault("bet not", 1, 7);
        dueFault("bet 12345;", 1, 4);
        dueFault("bet (1 and ) ?", 1, 11);
        dueFault("bet (1 < ) ?", 1, 9);
        dueFault("bet (1 + ) ?", 1, 9);
        dueFault("bet (1 * ) ?", 1, 9);
        dueFault("bet (not ) ?", 1, 9);
        BeggarHeaps x = Checks.with(KINDS + "bet 0 ;", "left plain ; right plain ;");
        x.turn(1);
        due("0 is a number behind a turn, too", 0, x.offer());
    }

    private static void promise3Tokens() {
        dueFault("kind abcdefgh pays 1;", 0, 0);
        dueFault("kind abcdefghi pays 1;", 1, 5);
        dueFault("kind\na\npays\n1\n;\n", 0, 0);
        dueFault("kind a pays 1;kind b pays 1;packa 1;", 1, 28);
        dueFault("kind a pays 1;pack a3;", 0, 0);
        dueFault("kind a pays 1lay low;", 1, 13);
        dueFault("limit 10lay low;", 1, 8);
        dueFault("kind A pays 1;", 1, 5);
        dueFault("kind a-b pays 1;", 1, 6);
        dueFault("kind a pays 1; ?", 1, 15);
        dueFault("kind a pays 1. ;", 1, 13);
        due("N right before NAME", 0, Checks.deal(Checks.with(KINDS, null), "left 3plain2jack;"));
    }

    private static void promise3Kept() {
        BeggarHeaps x = Checks.with(SMALL + "lay low; limit 50; first right;", "left ace; right plain;");
        Checks.book(x, "opening ace, won left;");
        x.turn(1);
        x.mark(0, false);
        due("a fault", 1, Checks.table(x, "wrong"));
        due("kinds stay", 3, x.count(0));
        due("limit stays", 50, x.count(16));
        due("the game stays", 1, x.count(8));
        due("the book stays", 1, x.count(13));
        due("undo stays", 1, x.count(15));
        due("a fault late in the text", 1, Checks.table(x, "kind q pays 1; limit 99; wrong") % 16);
        due("kinds stay", 3, x.count(0));
        due("pack stays", 3, x.count(1));
        due("a new table", 0, Checks.table(x, "kind q pays 2;"));
        int[] after = {1, 0, 0, 0, 0, 0, 0, -1, 0, 0, -1, 100, 0, 0, 0, 0, 1000, 0, 0};
        for (int what = 0; what < after.length; what++) {
            due("after a table count(" + what + ")", after[what], x.count(what));
        }
        due("no mark is there", false, x.mark(0, true));
        due("nothing was dealt", false, x.again());
    }

    private static void promise4() {
        BeggarHeaps x = game("left ace 2 plain jack ; right 3plain ;");
        Checks.dueText("left", "0221", Checks.rowOf(x, 0));
        Checks.dueText("right", "222", Checks.rowOf(x, 1));
        x.turn(1);
        x.bet(0, 5);
        due("deal of right alone", 0, Checks.deal(x, "right ace ;"));
        Checks.dueText("left has none", "", Checks.rowOf(x, 0));
        Checks.dueText("right", "0", Checks.rowOf(x, 1));
        due("a new game", 100, x.count(11));
        due("a new game", 0, x.count(15));
        due("a new game", 0, x.count(4));
        due("an empty deal", 0, Checks.deal(x, ""));
        due("it was dealt", true, x.again());
        due("a fault", 1 + 16 * 9, Checks.deal(x, "left ace won left;"));
        dueDealFault("left 12 plain 12 plain; right 12 plain 12 plain;", 0, 0);
        dueDealFault("left 12 plain 12 plain plain;", 5, 23);
        dueDealFault("left 12 plain 11 plain 2 plain;", 5, 25);
        dueDealFault("left 12 plain 11 plain 2 other;", 2, 25);
        dueDealFault("left 13 plain;", 4, 5);
        dueDealFault("left 0 plain;", 4, 5);
        dueDealFault("left 2 2 plain;", 1, 7);
        dueDealFault("left other;", 2, 5);
        dueDealFault("left kind;", 1, 5);
        dueDealFault("left ; left ;", 3, 7);
        dueDealFault("right ; left ; right", 3, 15);
        dueDealFault("left plain", 1, 10);
        dueDealFault("left plain, plain;", 1, 10);
        dueDealFault("nobody plain;", 1, 0);
        dueDealFault("plain;", 1, 0);
        dueDealFault("left 12345 plain;", 1, 5);
        x = game("left plain;");
        x.turn(1);
        due("fault", 1, Checks.deal(x, ";"));
        due("all stays", 1, x.count(4));
        due("the tape is taken", 0, x.count(18));
    }

    private static void promise5() {
        BeggarHeaps x = game(null);
        due("book", 0, Checks.book(x, "opening 6 plain , 2 ace jack won nobody ; opening , won left ;"));
        due("two", 2, x.count(13));
        due("a book is another one", 0, Checks.book(x, "opening plain , won left ;"));
        due("one", 1, x.count(13));
        due("a fault", 1, Checks.book(x, "won"));
        due("all stays", 1, x.count(13));
        due("an empty book", 0, Checks.book(x, " "));
        due("none", 0, x.count(13));
        String twelve = "";
        for (int i = 0; i < 12; i++) {
            twelve += "opening , won left ;";
        }
        dueBookFault(twelve, 0, 0);
        dueBookFault(twelve + "opening", 5, twelve.length());
        dueBookFault("opening 7 plain , won left ;", 5, 10);
        dueBookFault("opening 6 plain plain , won left ;", 5, 16);
        dueBookFault("opening , 6 plain plain won left ;", 5, 18);
        dueBookFault("opening other , won left ;", 2, 8);
        dueBookFault("opening plain won left ;", 1, 14);
        dueBookFault("opening plain ; plain won left ;", 1, 14);
        dueBookFault("opening plain , plain left ;", 1, 22);
        dueBookFault("opening plain , plain won plain ;", 1, 26);
        dueBookFault("opening plain , plain won left", 1, 30);
        dueBookFault("left plain ;", 1, 0);
        dueBookFault("opening 0 plain , won left ;", 4, 8);
    }

    private static void promise6() {
        BeggarHeaps x = Checks.with(SMALL, "left 2 plain jack ; right plain jack ;");
        due("pays", 4, x.kind(0, 0));
        due("pays nothing", 0, x.kind(2, 0));
        due("in the pack", 2, x.kind(2, 1));
        due("without a line", 0, x.kind(0, 1));
        due("left's", 2, x.kind(2, 2));
        due("right's", 1, x.kind(2, 3));
        due("on the heap", 0, x.kind(2, 4));
        x.turn(2);
        due("left's then", 1, x.kind(2, 2));
        due("on the heap then", 2, x.kind(2, 4));
        due("what 5", -1, x.kind(0, 5));
        due("what -1", -1, x.kind(0, -1));
        due("kind 3", -1, x.kind(3, 0));
        due("kind -1", -1, x.kind(-1, 0));
        due("kind MIN", -1, x.kind(MIN, MIN));
        due("kind MAX", -1, x.kind(MAX, MAX));
    }

    private static void promise7and8() {
        BeggarHeaps x = game("left ace plain ; right jack plain plain ;");
        due("top of left", 0, x.card(0, 0));
        due("second of left", 2, x.card(0, 1));
        due("beyond", -1, x.card(0, 2));
        due("right", 1, x.card(1, 0));
        due("side 2", -1, x.card(2, 0));
        due("side -1", -1, x.card(-1, 0));
        due("i -1", -1, x.card(0, -1));
        due("extremes", -1, x.card(MIN, MAX));
        due("no heap", -1, x.heap(0));
        x.turn(2);
        due("first turned", 0, x.heap(0));
        due("second turned", 1, x.heap(1));
        due("beyond", -1, x.heap(2));
        due("i -1", -1, x.heap(-1));
        due("MAX", -1, x.heap(MAX));
        due("top of left then", 2, x.card(0, 0));
    }

    private static void promise9() {
        // ace, jack turns it round, left pays one: right has the heap of three.
        BeggarHeaps x = game("left ace plain plain ; right jack plain plain plain plain plain ;");
        due("nothing kept", -1, x.taken(0, 0));
        x.turn(3);
        due("who", 1, x.taken(0, 0));
        due("cards", 3, x.taken(0, 1));
        due("make pay", 2, x.taken(0, 2));
        due("turned round", 1, x.taken(0, 3));
        due("what 4", -1, x.taken(0, 4));
        due("what -1", -1, x.taken(0, -1));
        due("i 1", -1, x.taken(1, 0));
        due("i -1", -1, x.taken(-1, 0));
        due("MIN", -1, x.taken(MIN, MAX));
        // The first heap has two cards and is left's, then one of three comes every three turns.
        x = roundGame();
        x.turn(2 + 3 * 38);
        due("heaps", 39, x.count(9));
        due("the last", 3, x.taken(0, 1));
        due("the last", 0, x.taken(0, 0));
        due("the one before", 1, x.taken(1, 0));
        due("the first one", 2, x.taken(38, 1));
        due("no other", -1, x.taken(39, 1));
        x.turn(3);
        due("the first one is the 40th", 2, x.taken(39, 1));
        x.turn(3);
        due("the first one is not kept", 3, x.taken(39, 1));
        due("the last 40", -1, x.taken(40, 0));
    }

    private static void promise10() {
        BeggarHeaps x = game("left plain ace plain plain ; right plain plain plain plain plain plain ;");
        due("turn(0)", -1, x.turn(0));
        due("turn(-1)", -1, x.turn(-1));
        due("turn(1001)", -1, x.turn(1001));
        due("turn(MIN)", -1, x.turn(MIN));
        due("nothing was done", 0, x.count(15));
        due("one", 1, x.turn(1));
        due("right is next", 1, x.count(5));
        due("one more", 1, x.turn(1));
        due("the ace", 1, x.turn(1));
        due("owed", 4, x.count(6));
        due("taker", 0, x.count(7));
        due("right is next", 1, x.count(5));
        due("three of four", 3, x.turn(3));
        due("owed", 1, x.count(6));
        due("right stays next", 1, x.count(5));
        due("the fourth", 1, x.turn(1));
        due("nothing is owed", 0, x.count(6));
        due("no taker", -1, x.count(7));
        due("left is next", 0, x.count(5));
        due("the heap is taken", 0, x.count(4));
        Checks.dueText("beneath, as it was turned", "22220" + "2222", Checks.rowOf(x, 0));
        due("to the end: left 1, right 1, left 1", 3, x.turn(1000));
        due("left has won", 0, x.count(10));
        due("10 turns", 10, x.count(8));
        due("no more", 0, x.turn(5));
        due("still -1 for others", -1, x.turn(0));
        // It is WON at the TURN that can't be made, not before.
        x = game("left plain ; right ;");
        due("left's card", 1, x.turn(1));
        due("nobody yet", -1, x.count(10));
        due("right has none", 0, x.turn(1));
        due("left has won", 0, x.count(10));
        due("both can be undone", 2, x.count(15));
        x = game("left ; right plain ;");
        due("left begins and has none", 0, x.turn(1000));
        due("right has won", 1, x.count(10));
    }

    private static void promise11() {
        BeggarHeaps x = game("left ace jack plain ; right plain plain plain ;");
        due("two at once", true, x.slip(0));
        due("two turns", 2, x.count(8));
        due("the ace makes nothing pay", 1, x.count(6));
        due("by left", 0, x.count(7));
        x.turn(1);
        due("three cards", 3, x.taken(0, 1));
        due("both make pay", 2, x.taken(0, 2));
        due("not turned round", 0, x.taken(0, 3));
        Checks.dueText("left", "2012", Checks.rowOf(x, 0));
        // In paying: the first one pays nothing.
        x = game("left ace plain ; right 5 plain ;");
        x.turn(1);
        due("two at once", true, x.slip(0));
        due("one less", 3, x.count(6));
        due("right stays next", 1, x.count(5));
        // A slipped picture while some are owed is no turning round.
        x = game("left ace plain plain; right jack jack plain ;");
        x.turn(1);
        x.slip(0);
        x.turn(1);
        due("turned round once", 1, x.taken(0, 3));
        // One card is too few.
        x = game("left plain ; right plain plain ;");
        due("one card", false, x.slip(0));
        due("one card beneath", false, x.slip(2));
        due("nothing to undo", 0, x.count(15));
        due("slip 3", false, x.slip(3));
        due("slip -1", false, x.slip(-1));
        due("slip MIN", false, x.slip(MIN));
        // Laid about, once.
        x = Checks.with(KINDS + "lay low ;", "left jack plain plain plain ; right 2 plain jack plain ;");
        due("waits", true, x.slip(1));
        due("waits already", false, x.slip(1));
        x.turn(2);
        Checks.dueText("about, not low", "22221", Checks.rowOf(x, 0));
        due("another time", true, x.slip(1));
        // The same with a heap of three tells about from low.
        x = Checks.with(KINDS + "lay under ;", "left plain jack plain ; right plain plain plain ;");
        x.slip(1);
        x.turn(4);
        Checks.dueText("about", "22122", Checks.rowOf(x, 0));
        x = Checks.with(KINDS + "lay under ;", "left plain jack plain ; right plain plain plain ;");
        x.turn(4);
        Checks.dueText("under", "22212", Checks.rowOf(x, 0));
        // Top card beneath.
        x = game("left ace jack plain ; right plain ;");
        due("beneath", true, x.slip(2));
        Checks.dueText("left", "120", Checks.rowOf(x, 0));
        due("no turn", 0, x.count(8));
        due("left is next", 0, x.count(5));
        due("all unseen", 3, x.unseen(0));
        x = game("left ; right 3 plain ;");
        x.turn(1);
        due("won: 0", false, x.slip(0));
        due("won: 1", false, x.slip(1));
        due("won: 2", false, x.slip(2));
    }

    private static void promise12() {
        BeggarHeaps x = game("left ace 5 plain ; right 9 plain ;");
        due("nothing", false, x.undo());
        x.turn(3);
        x.bet(1, 10);
        x.slip(2);
        due("three", 3, x.count(15));
        due("slip", true, x.undo());
        due("bet", true, x.undo());
        due("the coins are back", 100, x.count(11));
        due("no bet", 0, x.count(12));
        due("three turns at once", true, x.undo());
        Checks.dueText("left", "022222", Checks.rowOf(x, 0));
        due("all unseen again", 6, x.unseen(0));
        due("nothing more", false, x.undo());
        x = roundGame();
        for (int i = 0; i < 20; i++) {
            x.turn(1);
        }
        due("the last 16", 16, x.count(15));
        for (int i = 0; i < 16; i++) {
            due("undo", true, x.undo());
        }
        due("no 17th", false, x.undo());
        due("four turns are left", 4, x.count(8));
        x.turn(5);
        x.again();
        due("since the game began", false, x.undo());
        x.turn(1);
        Checks.deal(x, "left plain;");
        due("since the game began", false, x.undo());
        x.turn(2);
        due("won", 0, x.count(10));
        due("won is undone", true, x.undo());
        due("nobody", -1, x.count(10));
    }

    private static void promise13() {
        BeggarHeaps x = game(null);
        due("nothing was dealt", false, x.again());
        Checks.deal(x, "left ace plain ; right 4 plain ;");
        x.bet(0, 50);
        x.turn(5);
        due("a heap", 1, x.count(9));
        due("again", true, x.again());
        Checks.dueText("left", "02", Checks.rowOf(x, 0));
        Checks.dueText("right", "2222", Checks.rowOf(x, 1));
        due("purse", 100, x.count(11));
        due("bets", 0, x.count(12));
        due("heaps", 0, x.count(9));
        due("kept", -1, x.taken(0, 0));
        due("unseen", 2, x.unseen(0));
        x = Checks.with(SMALL, null);
        x.drawn(7);
        String left = Checks.rowOf(x, 0);
        x.turn(2);
        due("again after drawn", true, x.again());
        Checks.dueText("left", left, Checks.rowOf(x, 0));
    }

    /**
     * J p, p J, laid low: J and p are left's: p p J against J; p, J, p are right's: J against p p J; and so on,
     * each side in turn: from the second turn on a round of six.
     */
    private static BeggarHeaps roundGame() {
        return Checks.with(KINDS + "pack jack 2 ; pack plain 2 ; lay low ;", "left jack plain ; right plain jack ;");
    }

    private static void promise14() {
        BeggarHeaps x = game("left ace plain plain ; right plain plain ;");
        due("left wins", 0, x.ends(0));
        due("three turns", 3, x.ends(1));
        due("no heap", 0, x.ends(2));
        due("no round", 0, x.ends(3));
        due("what 4", -1, x.ends(4));
        due("what -1", -1, x.ends(-1));
        due("nothing was done", 0, x.count(8));
        x.turn(2);
        due("from now on", 1, x.ends(1));
        x.turn(2);
        due("won", 0, x.ends(0));
        due("won: no turn more", 0, x.ends(1));
        x = game("left jack plain ; right plain ;");
        due("a heap, then left 1, right none", 3, x.ends(1));
        due("a heap", 1, x.ends(2));
        x.turn(2);
        due("heaps from now on", 0, x.ends(2));
    }

    private static void promise14Round() {
        BeggarHeaps x = roundGame();
        due("goes round", 2, x.ends(0));
        int first = 2;
        int round = 6;
        due("for the first time", first, x.ends(1));
        due("heaps till then", 1, x.ends(2));
        due("turns of a round", round, x.ends(3));
        x.turn(first);
        due("heaps till then", 1, x.count(9));
        due("nothing on the heap", 0, x.count(4));
        String state = Checks.rowOf(x, 0) + "/" + Checks.rowOf(x, 1) + x.count(5);
        due("from there on at once", 0, x.ends(1));
        due("the same round", round, x.ends(3));
        for (int t = 1; t < round; t++) {
            x.turn(1);
            boolean alike = x.count(4) == 0 && state.equals(Checks.rowOf(x, 0) + "/" + Checks.rowOf(x, 1) + x.count(5));
            due("not before", false, alike);
        }
        x.turn(1);
        Checks.dueText("as it was", state, Checks.rowOf(x, 0) + "/" + Checks.rowOf(x, 1) + x.count(5));
        // Within a heap the first state that counts is behind it.
        x.turn(1);
        due("goes round from within", 2, x.ends(0));
        due("behind the heap", 2, x.ends(1));
        due("one heap till then", 1, x.ends(2));
        due("the same round", 6, x.ends(3));
        // Laid about, p J p is p J p: left wins or it is another round, but now is not within it.
        x.undo();
        x.slip(1);
        due("a slip waits: not now", true, x.ends(0) != 2 || x.ends(1) > 0);
        // Jack and plain lie alike, low or about: the way is the same, but with a slip waiting now does not count.
        x = Checks.with("kind jack pays 1 ; kind queen pays 1 ; kind plain pays 0 ; lay low ;",
            "left jack 2 plain queen ; right 3 plain queen ;");
        due("from now on", 0, x.ends(1));
        due("a round", 42, x.ends(3));
        x.slip(1);
        due("behind the first heap", 2, x.ends(1));
        due("one heap", 1, x.ends(2));
        due("a round", 42, x.ends(3));
        // Two turns, then a round of ten: twelve are enough to see it, eleven are not.
        String deal = "left jack 3 plain ; right 2 plain jack ;";
        x = Checks.with(KINDS + "lay low ; limit 12 ;", deal);
        due("within 12", 2, x.ends(0));
        due("first", 2, x.ends(1));
        due("round", 10, x.ends(3));
        x = Checks.with(KINDS + "lay low ; limit 11 ;", deal);
        due("not within 11", 3, x.ends(0));
        due("limit", 11, x.ends(1));
        // As it is now it will be again.
        x = Checks.with(KINDS + "lay low ; first right ;", "left jack 2 plain jack ; right 2 plain jack ;");
        due("goes round", 2, x.ends(0));
        due("from now on", 0, x.ends(1));
        due("no heap till then", 0, x.ends(2));
        due("six turns", 6, x.ends(3));
    }

    private static void promise14Limit() {
        String deal = "left 6 plain ; right 6 plain ;";
        BeggarHeaps x = Checks.with(KINDS + "limit 13 ;", deal);
        due("left has none at its 13th", 1, x.ends(0));
        due("12 turns", 12, x.ends(1));
        x = Checks.with(KINDS + "limit 11 ;", deal);
        due("none", 3, x.ends(0));
        due("limit", 11, x.ends(1));
        x = Checks.with(KINDS + "limit 12 ;", deal);
        due("left has none behind just 12", 1, x.ends(0));
        due("12 turns", 12, x.ends(1));
        due("no heap", 0, x.ends(2));
        due("no round", 0, x.ends(3));
        due("nobody has WON by asking", -1, x.count(10));
        x.turn(2);
        due("from then on 10 of 12", 10, x.ends(1));
        due("right still wins", 1, x.ends(0));
        x = Checks.with(KINDS + "limit 10 ;", "left 5 plain ; right 4 plain jack ;");
        due("jack is the tenth, left owes and has none", 1, x.ends(0));
        due("ten turns", 10, x.ends(1));
        x = Checks.with(KINDS + "limit 11 ; first right ;", "left 6 plain ; right 4 plain jack ;");
        due("a heap of ten, then one more: none", 3, x.ends(0));
        due("its heap", 1, x.ends(2));
        x = Checks.with(KINDS + "limit 12 ; first right ;", "left 6 plain ; right 4 plain jack ;");
        due("left's last card is the 12th, right is next: none", 3, x.ends(0));
        // All that was turned is a heap of ten, and its taker is next.
        x = Checks.with(KINDS + "limit 10 ; first right ;", "left 5 plain ; right 4 plain jack ;");
        due("right is next and has ten: none", 3, x.ends(0));
        due("the heap behind the tenth", 1, x.ends(2));
        x = Checks.with(KINDS + "limit 11 ; first right ;", "left 5 plain ; right 4 plain jack ;");
        due("one more, and left has none", 1, x.ends(0));
        due("11 turns", 11, x.ends(1));
        due("one heap", 1, x.ends(2));
        x = Checks.with(KINDS + "limit 10 ;", "left 2 jack 8 plain ; right 12 plain ;");
        due("none", 3, x.ends(0));
        due("limit", 10, x.ends(1));
        due("heaps in 10 turns: 1 and 2, then plain", 1, x.ends(2) > 0 ? 1 : 0);
        due("no round", 0, x.ends(3));
    }

    private static void promise15and16() {
        // Rows of jack, plain, plain: left two, right one.
        // 0: J p | p: heap of 2 to left (p J p): p, right none: left, 3 turns.
        // 1: p J | p: p, p, J, right none: left, 3 turns. 2: p p | J: p, J, p: heap of 3 to right: p p J p.. left none.
        BeggarHeaps x = Checks.with(SMALL, null);
        due("rows", 3, x.all(0));
        due("left", 2, x.all(1));
        due("right", 1, x.all(2));
        due("round", 0, x.all(3));
        due("none", 0, x.all(4));
        // Row 2: p J p, heap of three to right who is next: p, left none: 4 turns.
        due("longest", 4, x.all(5));
        due("its number", 2, x.all(6));
        due("what 7", -1, x.all(7));
        due("what -1", -1, x.all(-1));
        int[][] rows = {{1, 2, 2}, {2, 1, 2}, {2, 2, 1}};
        for (int n = 0; n < 3; n++) {
            for (int i = 0; i < 3; i++) {
                due("row(" + n + ", " + i + ")", rows[n][i], x.row(n, i));
            }
        }
        due("card 3", -1, x.row(0, 3));
        due("card -1", -1, x.row(0, -1));
        due("row 3", -1, x.row(3, 0));
        due("row -1", -1, x.row(-1, 0));
        due("MIN MAX", -1, x.row(MIN, MAX));
        due("the game stays", 0, x.count(2));
        x = Checks.with(KINDS, null);
        due("no card", -1, x.all(0));
        due("no card", -1, x.row(0, 0));
        x = Checks.with(KINDS + "pack plain 11 ;", null);
        due("11 cards", -1, x.all(0));
        x = Checks.with(KINDS + "pack plain 10 ;", null);
        due("10 cards", 1, x.all(0));
        due("all plain: left runs out", 1, x.all(2));
        due("10 turns", 10, x.all(5));
        x = Checks.with(KINDS + "pack plain 1 ; first right ;", null);
        due("right has none at once", 1, x.all(1));
        due("0 turns", 0, x.all(5));
        due("the first one", 0, x.all(6));
        String eight = "kind a pays 1;kind b pays 2;kind c pays 0;kind d pays 3;kind e pays 0;";
        x = Checks.with(eight + "pack a 1;pack b 1;pack c 4;pack d 2;pack e 2;", null);
        due("37,800 rows", -1, x.all(0));
        x = Checks.with(eight + "pack a 1;pack b 1;pack c 4;pack d 1;pack e 2;limit 200;", null);
        due("9 cards, 7,560 rows", 7560, x.all(0));
        due("all of them", 7560, x.all(1) + x.all(2) + x.all(3) + x.all(4));
        due("last row's first", 4, x.row(7559, 0));
        due("last row's last", 0, x.row(7559, 8));
        x = roundGame();
        due("6 rows", 6, x.all(0));
        due("one goes round", 1, x.all(3));
        x = Checks.with(KINDS + "pack jack 2 ; pack plain 4 ; limit 10 ;", null);
        due("some don't end in 10", true, x.all(4) > 0);
        x = Checks.with(KINDS + "pack plain 10 ; limit 10 ;", null);
        due("lost behind just 10: right wins", 1, x.all(2));
        due("not none", 0, x.all(4));
        due("10 turns", 10, x.all(5));
        due("its number", 0, x.all(6));
    }

    private static void promise17() {
        // Left first: left 2, right 1 (see promise 15). Right first, left two, right one:
        // J p | p: p, J, right none: left wins, not who begins. p J | p: p, p, right none: left.
        // p p | J: J, p: heap to right: J p; J, p: heap of two to right, left none: J owed 1: right wins.
        BeggarHeaps x = Checks.with(SMALL, null);
        due("who begins", 3, x.beginner(0));
        due("the other one", 3, x.beginner(1));
        due("all else", 0, x.beginner(2));
        due("what 3", -1, x.beginner(3));
        due("what -1", -1, x.beginner(-1));
        due("can't be asked", -1, Checks.with(KINDS, null).beginner(0));
        x = roundGame();
        due("each row twice", 2 * x.all(0), x.beginner(0) + x.beginner(1) + x.beginner(2));
        due("rounds are all else", true, x.beginner(2) > 0);
        due("first right is the same", x.beginner(0), Checks.with(KINDS
            + "pack jack 2 ; pack plain 2 ; lay low ; first right ;", null).beginner(0));
        x = Checks.with(KINDS + "pack plain 10 ; limit 10 ;", null);
        due("who begins loses behind just 10", 2, x.beginner(1));
        due("nothing else", 0, x.beginner(0) + x.beginner(2));
    }

    private static void promise18() {
        BeggarHeaps x = Checks.with(SMALL, null);
        due("left has the jack in two", 2, x.worth(1, 1));
        due("and wins both", 2, x.worth(1, 0));
        due("left has more plain in one", 1, x.worth(2, 1));
        due("and loses", 0, x.worth(2, 0));
        due("no ace", 0, x.worth(0, 1));
        due("kind 3", -1, x.worth(3, 0));
        due("kind -1", -1, x.worth(-1, 0));
        due("what 2", -1, x.worth(1, 2));
        due("what -1", -1, x.worth(1, -1));
        due("can't be asked", -1, Checks.with(KINDS, null).worth(0, 0));
        // Left has five of nine, right begins with four.
        x = Checks.with(KINDS + "pack plain 9 ; limit 10 ; first right ;", null);
        due("right has none behind eight", 1, x.worth(2, 0));
        x = Checks.with("kind a pays 0 ; kind b pays 0 ; pack a 7 ; pack b 3 ; limit 10 ; first right ;", null);
        due("left has more of b in 60 rows", x.all(0) - 60, x.all(0) - x.worth(1, 1));
        due("and wins each behind just ten", 60, x.worth(1, 0));
    }

    private static void promise19() {
        // Row 0 has one heap: left 3 cards, right none, left's jack. Row 2: right has 3, left 1, right's jack.
        // Row 2 goes: p | J | p taken; right has p J p, left none: then left has none.
        BeggarHeaps x = Checks.with(SMALL, null);
        due("rows in which one has more", 2, x.leads(1, 1));
        due("he wins", 2, x.leads(1, 0));
        due("rows in which one makes pay more", 2, x.leads(1, 3));
        due("he wins", 2, x.leads(1, 2));
        due("no second heap", 0, x.leads(2, 1));
        due("heaps 20", 0, x.leads(20, 1));
        due("heaps 21", -1, x.leads(21, 1));
        due("heaps 0", -1, x.leads(0, 1));
        due("what 4", -1, x.leads(1, 4));
        due("what -1", -1, x.leads(1, -1));
        due("can't be asked", -1, Checks.with(KINDS, null).leads(1, 0));
        x = roundGame();
        due("the row that goes round takes 20 heaps", 1, x.leads(20, 1));
        due("the leader does not win it", 0, x.leads(20, 0));
        due("a jack each", 0, x.leads(20, 3));
        // It takes its heaps behind 2, 5, 8, 11 turns.
        String pack = KINDS + "pack jack 2 ; pack plain 2 ; lay low ; limit ";
        due("three within 10", 1, Checks.with(pack + "10 ;", null).leads(3, 1));
        due("no fourth", 0, Checks.with(pack + "10 ;", null).leads(4, 1));
        due("the fourth within 11", 1, Checks.with(pack + "11 ;", null).leads(4, 1));
        // Who has the jack takes one heap, but left with it at the bottom (right can't pay). Left's four rows are won
        // behind just 10 turns, right's five behind just 11.
        pack = KINDS + "pack jack 1 ; pack plain 9 ; first right ; limit ";
        due("rows with a heap", 9, Checks.with(pack + "10 ;", null).leads(1, 1));
        due("left's are won within 10", 4, Checks.with(pack + "10 ;", null).leads(1, 0));
        due("by what they make pay, too", 4, Checks.with(pack + "10 ;", null).leads(1, 2));
        due("all are won within 11", 9, Checks.with(pack + "11 ;", null).leads(1, 0));
    }

    private static void promise20() {
        BeggarHeaps x = Checks.with(SMALL, null);
        due("as it is: 3 + 3 + 4 by 3", 10, x.laws(1, 1, 0));
        due("below", 3, x.laws(1, 1, 1));
        due("round", 0, x.laws(1, 1, 2));
        // Nothing pays: p p p runs out: left, right, left, right none: 3 turns each.
        due("jack pays 0", 3, x.laws(1, 0, 0));
        due("below", 1, x.laws(1, 0, 1));
        due("the table stays", 1, x.kind(1, 0));
        due("a kind that is not in the pack", 10, x.laws(0, 6, 0));
        due("pays 7", -1, x.laws(1, 7, 0));
        due("pays -1", -1, x.laws(1, -1, 0));
        due("kind 3", -1, x.laws(3, 1, 0));
        due("kind -1", -1, x.laws(-1, 1, 0));
        due("what 3", -1, x.laws(1, 1, 3));
        due("what -1", -1, x.laws(1, 1, -1));
        due("can't be asked", -1, Checks.with(KINDS, null).laws(0, 0, 0));
        x = Checks.with(KINDS + "pack plain 10 ; limit 10 ;", null);
        due("lost behind just 10", 10, x.laws(2, 0, 0));
        due("one row", 1, x.laws(2, 0, 1));
        due("all of them make pay", 10, x.laws(2, 6, 0));
        x = roundGame();
        due("as the table", x.all(3), x.laws(1, 1, 2));
        Checks.table(x, SMALL);
        due("another table: round", 0, x.laws(1, 1, 2));
        due("another table: mean", 10, x.laws(1, 1, 0));
    }

    private static void promise21and22() {
        BeggarHeaps x = game("left plain jack plain ; right plain plain ;");
        due("left", 3, x.unseen(0));
        due("right", 2, x.unseen(1));
        due("side 2", -1, x.unseen(2));
        due("side -1", -1, x.unseen(-1));
        due("five places of one jack", 5, x.odds(2));
        due("all end", 5, x.odds(0) + x.odds(1));
        due("what 3", -1, x.odds(3));
        due("what -1", -1, x.odds(-1));
        x.turn(4);
        due("the heap was seen", 1, x.unseen(0));
        due("right's last one is not owed", 0, x.unseen(1));
        due("one row", 1, x.odds(2));
        due("left wins", 1, x.odds(0));
        due("right does not", 0, x.odds(1));
        x = game("left 5 plain ace ; right 5 plain ;");
        due("11 cards", -1, x.odds(0));
        x.turn(1);
        due("10 cards", 10, x.odds(2));
        x = Checks.with("kind a pays 1;kind b pays 2;kind c pays 0;kind d pays 3;kind e pays 0;",
            "left a b c d e; right c c c c e;");
        due("15,120 rows", 15120, x.odds(2));
        x = Checks.with("kind a pays 1;kind b pays 2;kind c pays 0;kind d pays 3;kind e pays 0;",
            "left a b c d e; right c c c e e;");
        due("25,200 rows", -1, x.odds(2));
        due("new: one row of none", 1, new BeggarHeaps().odds(2));
        // A slip beneath keeps the card unseen.
        x = game("left plain jack ; right plain plain ;");
        x.slip(2);
        due("still unseen", 2, x.unseen(0));
        x = Checks.with(KINDS + "limit 10 ; first right ; bet 1 ;", "left 5 plain ; right 5 plain ;");
        due("right loses behind just 10", 1, x.odds(0));
        due("left is to be taken", 1, x.take(0));
        due("right is not", 0, x.take(1));
    }

    private static void promise23() {
        BeggarHeaps x = game("left ace ; right plain ;");
        due("without bet", 10, x.offer());
        x = Checks.with(KINDS + "bet turns * 3 + heaps ;", "left jack plain plain ; right plain plain ;");
        due("at first", 0, x.offer());
        x.turn(1);
        due("one turn", 3, x.offer());
        x.turn(1);
        due("two turns, a heap", 7, x.offer());
        x = Checks.with(KINDS + "bet 50 * turns - 1 ;", "left plain plain ; right plain plain ;");
        due("below 0", 0, x.offer());
        x.turn(2);
        due("99", 99, x.offer());
        x.turn(1);
        due("above 99", 99, x.offer());
    }

    private static void promise24() {
        BeggarHeaps x = Checks.with(KINDS + "bet 15 + turns ;", "left ace plain ; right plain plain ;");
        due("side 2", -1, x.bet(2, 1));
        due("side -1", -1, x.bet(-1, 1));
        due("no coin", -1, x.bet(0, 0));
        due("less", -1, x.bet(0, -5));
        due("more than there is", -1, x.bet(0, 101));
        due("MAX", -1, x.bet(0, MAX));
        due("none yet", 0, x.count(12));
        due("7 on left at 15", 93, x.bet(0, 7));
        due("13 on right", 80, x.bet(1, 13));
        x.turn(1);
        due("10 on left at 16", 70, x.bet(0, 10));
        due("three", 3, x.count(12));
        x.turn(1000);
        due("left has won", 0, x.count(10));
        due("70 + 7 + 10 (10.5 cut) + 10 + 16", 113, x.count(11));
        due("won: no bet", -1, x.bet(0, 1));
        due("undone", true, x.undo());
        due("the purse too", 70, x.count(11));
        x = game("left plain ; right plain ;");
        for (int i = 1; i <= 8; i++) {
            due("bet", 100 - i, x.bet(1, 1));
        }
        due("8 are there", -1, x.bet(1, 1));
        x.turn(5);
        due("right has won: each 1 with 1", 92 + 16, x.count(11));
        x = game("left plain ; right plain ;");
        due("all", 0, x.bet(0, 100));
        due("nothing is left", -1, x.bet(0, 1));
        x.turn(5);
        due("lost", 0, x.count(11));
    }

    private static void promise25() {
        // One jack, two plain: left 2 cards, right 1: left wins in 2 of 3.
        BeggarHeaps x = game("left jack plain ; right plain ;");
        due("wins", 2, x.odds(0));
        due("2 * 10 > 1 * 10", 1, x.take(0));
        due("1 * 10 > 2 * 10", 0, x.take(1));
        due("side 2", -1, x.take(2));
        due("side -1", -1, x.take(-1));
        x = Checks.with(KINDS + "bet 5 ;", "left jack plain ; right plain ;");
        due("2 * 5 = 1 * 10 is not more", 0, x.take(0));
        x = Checks.with(KINDS + "bet 21 ;", "left jack plain ; right plain ;");
        due("1 * 21 > 2 * 10", 1, x.take(1));
        x = Checks.with(KINDS + "bet 20 ;", "left jack plain ; right plain ;");
        due("1 * 20 = 2 * 10", 0, x.take(1));
        x = game("left 6 plain ; right 5 plain ;");
        due("odds can't be asked", -1, x.take(0));
    }

    private static void promise26() {
        BeggarHeaps x = game("left ace plain plain ; right plain plain ;");
        due("won before any heap", 0, x.choice(1, -1));
        due("no order", -1, x.choice(1, 0));
        due("heaps 0", -1, x.choice(0, -1));
        due("heaps 7", -1, x.choice(7, -1));
        due("what -2", -1, x.choice(1, -2));
        // A heap of each, then one more: fewest is what is within, else none.
        x = Checks.with("kind jack pays 1 ; kind queen pays 1 ; kind plain pays 0 ;",
            "left jack queen 2 plain ; right plain queen plain ;");
        due("six", 6, x.choice(6, -1));
        due("not five", -1, x.choice(5, -1));
        due("about", 1, x.choice(6, 0));
        due("about", 1, x.choice(6, 1));
        due("high", 2, x.choice(6, 2));
        due("under", 0, x.choice(6, 3));
        x = game("left jack plain ; right plain ;");
        due("one heap", 1, x.choice(1, -1));
        due("laid under", 0, x.choice(1, 0));
        due("beyond", -1, x.choice(1, 1));
        due("MAX", -1, x.choice(6, MAX));
        x.slip(1);
        due("a slip waits", -1, x.choice(1, -1));
        x = game("left ; right plain ;");
        due("left can't", -1, x.choice(6, -1));
        due("left can't", -1, x.choice(6, 0));
        // left: J p, right: p p. J p: heap to left. under: p J p | p: p, p, J, right none: won with 1 heap.
        x = game("left jack plain ; right plain plain ;");
        due("one heap", 1, x.choice(6, -1));
        due("the first order that does", 0, x.choice(6, 0));
        // As lay tells for right: right's heap is laid by the table, left's by choice.
        x = Checks.with(KINDS + "lay high ;", "left plain plain jack; right jack plain plain ;");
        int fewest = x.choice(6, -1);
        due("not fewer", -1, fewest > 1 ? x.choice(fewest - 1, -1) : -1);
        // Here under does not do, about does.
        BeggarHeaps y = findChoice();
        due("an order that is not under", true, y.choice(6, 0) > 0);
    }

    private static BeggarHeaps findChoice() {
        BeggarHeaps x = Checks.with(KINDS + "pack jack 2 ; pack plain 4 ;", null);
        for (int seed = 0; seed < 300; seed++) {
            x = Checks.with(KINDS + "pack jack 2 ; pack plain 4 ;", null);
            x.drawn(seed);
            if (x.choice(6, 0) > 0) {
                return x;
            }
        }
        return x;
    }

    private static void promise27() {
        BeggarHeaps x = game("left jack plain ; right plain plain ;");
        due("one heap", 1, x.both(1));
        due("heaps 4", 1, x.both(4));
        due("heaps 5", -1, x.both(5));
        due("heaps 0", -1, x.both(0));
        due("heaps -1", -1, x.both(-1));
        x.slip(1);
        due("a slip waits", -1, x.both(1));
        x = game("left plain plain ; right jack plain plain ;");
        due("left can't", 0, x.both(4));
        // Two jacks against two plain cards: two heaps.
        x = game("left 2 jack ; right 2 plain ;");
        due("not one", 0, x.both(1));
        due("two", 1, x.both(2));
        // What left can against a table's order he can't always against any.
        int less = 0;
        for (int seed = 0; seed < 200; seed++) {
            x = Checks.with(KINDS + "pack jack 3 ; pack plain 5 ; pack ace 1 ;", null);
            x.drawn(seed);
            boolean one = x.choice(4, -1) >= 0;
            boolean any = x.both(4) == 1;
            due("who can against any can against one", false, any && !one);
            less += one && !any ? 1 : 0;
        }
        due("some only against one", true, less > 0);
    }

    private static void promise28() {
        BeggarHeaps x = game("left ace plain jack ; right plain jack ;");
        Checks.book(x, "opening ace plain , plain won left ; opening ace , jack won right ; opening , won nobody ;"
            + "opening ace plain jack , plain jack won right ; opening ace plain jack jack , won left ;"
            + "opening , plain won nobody ;");
        due("fit", 4, x.opening(0));
        due("left", 1, x.opening(1));
        due("right", 1, x.opening(2));
        due("nobody", 2, x.opening(3));
        due("what 4", -1, x.opening(4));
        due("what -1", -1, x.opening(-1));
        x.turn(4);
        due("as they were dealt", 4, x.opening(0));
        x.slip(2);
        due("as they were dealt", 4, x.opening(0));
        Checks.deal(x, "left plain ;");
        due("another deal", 1, x.opening(0));
    }

    private static int ordersOf(BeggarHeaps x) {
        try {
            return x.orders();
        } catch (NoSuchElementException e) {
            return -7;
        }
    }

    private static void promise29to31() {
        BeggarHeaps x = game("left plain jack plain ; right plain plain jack ;");
        due("no heap", -1, x.comes(2));
        due("no heap", -7, ordersOf(x));
        due("clear", true, x.clear());
        x.turn(3);
        due("not yet", -7, ordersOf(x));
        x.turn(1);
        // Turned: p p J p. under ppJp, about pJpp, high Jppp, low pppJ, halves Jppp.
        due("all orders", 31, ordersOf(x));
        due("kind 3", -1, x.comes(3));
        due("kind -1", -1, x.comes(-1));
        due("plain came", 1, x.comes(2));
        due("under, about, low", 1 + 2 + 8, ordersOf(x));
        due("one", 1, x.count(14));
        due("jack came", 2, x.comes(1));
        due("about", 2, ordersOf(x));
        due("jack again", 3, x.comes(1));
        due("none", 0, ordersOf(x));
        due("fourth", 4, x.comes(2));
        due("no more than its cards", -1, x.comes(2));
        due("clear", true, x.clear());
        due("nothing comes", 0, x.count(14));
        due("all orders", 31, ordersOf(x));
        due("jack first", 1, x.comes(1));
        due("high, halves", 4 + 16, ordersOf(x));
        x.again();
        due("a new game", -7, ordersOf(x));
        due("nothing comes", 0, x.count(14));
        // Another heap is taken: nothing any more.
        x = game("left jack jack plain ; right plain plain plain ;");
        x.turn(2);
        x.comes(1);
        x.turn(1);
        due("still there", 1, x.count(14));
        x.turn(1);
        due("another heap", 0, x.count(14));
        // 12 at most.
        x = game("left 7 plain ace plain; right 12 plain ;");
        x.turn(7 + 7 + 1 + 4);
        due("a heap of 19", 19, x.taken(0, 1));
        for (int i = 1; i <= 12; i++) {
            due("comes", i, x.comes(2));
        }
        due("no 13th", -1, x.comes(2));
        due("under, low", 1 + 8, ordersOf(x));
    }

    private static void promise32to34() {
        BeggarHeaps x = Checks.with(KINDS, null);
        due("no card in the pack", false, x.drawn(1));
        due("no card in the pack", -1, x.games(1, 1, 0));
        limitReached();
        due("no card in the pack", -1, x.looked(1, 1, -1));
        x = Checks.with(KINDS + "pack ace 1 ; pack jack 1 ; pack plain 3 ;", null);
        due("seed -1", false, x.drawn(-1));
        due("seed 10000", false, x.drawn(10000));
        due("seed MIN", false, x.drawn(MIN));
        due("nothing dealt", false, x.again());
        due("seed 9999", true, x.drawn(9999));
        due("seed 0", true, x.drawn(0));
        // g = 12345 -> 0: 0 below 5; then as the law tells: 21468 below 4, 9988 below 3, 22117 below 2.
        int[] row = {0, 1, 2, 2, 2};
        long g = 0;
        for (int i = 4; i >= 1; i--) {
            g = (g * 1103515245L + 12345L) % (1L << 31);
            int j = (int) (g / 65536 % (i + 1));
            int card = row[i];
            row[i] = row[j];
            row[j] = card;
        }
        String text = "";
        for (int k : row) {
            text += k;
        }
        Checks.dueText("left has the greater half", text.substring(0, 3), Checks.rowOf(x, 0));
        Checks.dueText("right", text.substring(3), Checks.rowOf(x, 1));
        due("a new game", 0, x.count(15));
        x.drawn(77);
        due("games: one is drawn", x.ends(0) == 0 ? 1 : 0, x.games(77, 1, 0));
        due("games: one is drawn", x.ends(0) == 1 ? 1 : 0, x.games(77, 1, 1));
        due("games: one is drawn", x.ends(0) == 2 ? 1 : 0, x.games(77, 1, 2));
        due("games: longest", x.ends(0) < 2 ? x.ends(1) : 0, x.games(77, 1, 3));
        due("all end", 50, x.games(5, 50, 0) + x.games(5, 50, 1) + x.games(5, 50, 2));
        due("many 51", -1, x.games(5, 51, 0));
        due("many 0", -1, x.games(5, 0, 0));
        due("what 4", -1, x.games(5, 5, 4));
        due("what -1", -1, x.games(5, 5, -1));
        due("seed 10000", -1, x.games(10000, 5, 0));
        due("seed -1", -1, x.games(-1, 5, 0));
        looked();
    }

    private static void looked() {
        BeggarHeaps x = Checks.with(KINDS + "pack jack 2 ; pack plain 2 ; lay low ;", null);
        int number = x.looked(3, 200, -1);
        due("one is found", true, number >= 0);
        due("within so many", number, x.looked(3, number + 1, -1));
        due("not within fewer", -1, number > 0 ? x.looked(3, number, -1) : -1);
        String text = "left";
        for (int i = 0; i < 4; i++) {
            text += (i == 2 ? " ; right " : " ") + (x.looked(3, 200, i) == 1 ? "jack" : "plain");
        }
        due("card 4", -1, x.looked(3, 200, 4));
        due("card MAX", -1, x.looked(3, 200, MAX));
        due("what -2", -1, x.looked(3, 200, -2));
        due("many 0", -1, x.looked(3, 0, -1));
        due("many 201", -1, x.looked(3, 201, -1));
        due("seed 10000", -1, x.looked(10000, 200, -1));
        due("games tell it too", 1, number < 50 ? Math.min(1, x.games(3, number + 1, 2)) : 1);
        due("its row", 0, Checks.deal(x, text + " ;"));
        due("goes round", 2, x.ends(0));
        lookedOnce(x);
        x = Checks.with(KINDS + "pack plain 4 ;", null);
        due("none", -1, x.looked(3, 200, -1));
        due("none has no card", -1, x.looked(3, 200, 0));
    }

    // One of six rows goes round: some seed draws it first.
    private static void lookedOnce(BeggarHeaps x) {
        int seed = 0;
        while (seed < 9999 && x.looked(seed, 1, -1) != 0) {
            seed++;
        }
        due("the first one", 0, x.looked(seed, 1, -1));
        due("its first card", 1, x.looked(seed, 1, 0));
        due("its last card", 1, x.looked(seed, 1, 3));
        due("goes round", 1, x.games(seed, 1, 2));
        due("it does not end: no longest", 0, x.games(seed, 1, 3));
        due("all alike", 6, x.games(seed, 6, 0) + x.games(seed, 6, 1) + x.games(seed, 6, 2));
        due("one less, another seed", 5, x.games(seed + 1, 5, 0) + x.games(seed + 1, 5, 1) + x.games(seed + 1, 5, 2));
        due("fewer, once more", 4, x.games(seed + 2, 4, 0) + x.games(seed + 2, 4, 1) + x.games(seed + 2, 4, 2));
        int rounds = x.games(seed, 6, 2);
        Checks.table(x, KINDS + "pack jack 2 ; pack plain 2 ; lay about ;");
        due("another table: none is found", -1, x.looked(seed, 1, -1));
        due("another table: none is found", -1, x.looked(seed, 1, 0));
        Checks.table(x, KINDS + "pack jack 2 ; pack plain 2 ; lay low ;");
        due("as it was", rounds, x.games(seed, 6, 2));
        due("as it was", 0, x.looked(seed, 1, -1));
        Checks.table(x, KINDS + "pack plain 4 ;");
        due("another table: none goes round", 0, x.games(seed, 6, 2));
        due("another table: right wins all", 6, x.games(seed, 6, 1));
    }

    private static void marksHoldAll() {
        // Bets and what comes are those of the mark, whatever was laid in their places since.
        BeggarHeaps x = game("left jack plain plain ; right plain plain plain ;");
        x.turn(2);
        x.bet(0, 10);
        x.comes(1);
        int orders = ordersOf(x);
        x.mark(0, false);
        x.clear();
        x.comes(2);
        due("other orders", false, orders == ordersOf(x));
        x.undo();
        x.bet(1, 50);
        x.mark(0, true);
        due("orders of the mark", orders, ordersOf(x));
        due("purse of the mark", 90, x.count(11));
        x.turn(1000);
        due("left has won", 0, x.count(10));
        due("10 and 10 come back", 110, x.count(11));
        x.again();
        x.bet(1, 50);
        due("back to what was won", true, x.mark(0, true));
        due("coins of the mark", 90, x.count(11));
        // The offer of then, too: 10 at 30, not at 0.
        x = Checks.with(KINDS + "bet 10 * turns ;", "left ace plain plain plain ; right 3 plain ;");
        x.turn(3);
        x.bet(0, 10);
        x.mark(1, false);
        x.again();
        x.bet(0, 10);
        x.mark(1, true);
        x.turn(1000);
        due("left has won", 0, x.count(10));
        due("90 and 10 and 30", 130, x.count(11));
        x.mark(1, false);
        due("what is won stays won", true, x.mark(1, true));
        due("nothing comes twice", 0, x.turn(1));
        due("130", 130, x.count(11));
    }

    private static void limitReached() {
        BeggarHeaps x = Checks.with("kind a pays 2 ; pack a 11 ; first right ; lay halves ; limit 10 ;", null);
        due("right has five of eleven: he has none behind just ten", 3, x.games(0, 3, 0));
        due("right wins none", 0, x.games(0, 3, 1));
        due("ten turns", 10, x.games(0, 3, 3));
        x = Checks.with("kind a pays 2 ; pack a 11 ; limit 10 ;", null);
        due("left has six: none behind ten", 0, x.games(0, 3, 0) + x.games(0, 3, 1) + x.games(0, 3, 2));
        due("no longest", 0, x.games(0, 3, 3));
        x = Checks.with("kind a pays 2 ; pack a 11 ; limit 11 ;", null);
        due("left turns the eleventh, right has none", 3, x.games(0, 3, 0));
        due("eleven turns", 11, x.games(0, 3, 3));
    }

    private static void promise35() {
        marksHoldAll();
        BeggarHeaps x = game("left jack plain plain ; right plain plain plain ;");
        due("nothing on it", false, x.mark(0, true));
        due("mark 4", false, x.mark(4, false));
        due("mark -1", false, x.mark(-1, false));
        due("mark MIN", false, x.mark(MIN, true));
        x.turn(2);
        x.comes(1);
        x.bet(1, 30);
        due("laid", true, x.mark(3, false));
        due("undo stays", 2, x.count(15));
        x.turn(1000);
        x.clear();
        due("back", true, x.mark(3, true));
        due("nothing can be undone", false, x.undo());
        due("turns", 2, x.count(8));
        due("heaps kept", 2, x.taken(0, 1));
        due("bets", 1, x.count(12));
        due("purse", 70, x.count(11));
        due("comes", 1, x.count(14));
        due("orders", true, ordersOf(x) > 0);
        x.turn(1);
        due("back again", true, x.mark(3, true));
        due("turns", 2, x.count(8));
        due("mark 2 is empty", false, x.mark(2, true));
        Checks.deal(x, "left plain ;");
        due("marks stay with a deal", true, x.mark(3, true));
        due("turns", 2, x.count(8));
        due("laid over", true, x.mark(0, false));
        x.turn(1);
        due("laid over", true, x.mark(0, false));
        x.turn(1);
        x.mark(0, true);
        due("the later one", 3, x.count(8));
        Checks.table(x, KINDS);
        due("a table takes them", false, x.mark(3, true));
    }

    private static void promise36() {
        BeggarHeaps x = Checks.with(SMALL + "lay halves ; limit 77 ;", "left plain jack plain ; right 2 plain ace 3 plain ;");
        Checks.book(x, "opening , won left ; opening ace , won left ;");
        x.bet(0, 4);
        x.turn(2);
        x.feed(0x6100000000000000L, 0, 0);
        int[] now = {3, 3, 2, 5, 2, 0, 0, -1, 2, 0, -1, 96, 1, 2, 0, 2, 77, 4, 1};
        for (int what = 0; what < now.length; what++) {
            due("count(" + what + ")", now[what], x.count(what));
        }
        x.turn(1);
        due("owed", 1, x.count(6));
        due("taker", 0, x.count(7));
        due("next", 1, x.count(5));
        x.turn(1);
        due("heaps", 1, x.count(9));
        x.comes(2);
        due("comes", 1, x.count(14));
        due("count(19)", -1, x.count(19));
        due("count(-1)", -1, x.count(-1));
        due("count(MIN)", -1, x.count(MIN));
        due("count(MAX)", -1, x.count(MAX));
    }

    /** Turned: plain jack ace and four plain ones, laid by each of the five orders. */
    private static void ordersOfLaying() {
        String[] due = {"2102222", "2222012", "0122222", "2222210", "2222102"};
        String[] orders = {"under", "about", "high", "low", "halves"};
        for (int i = 0; i < 5; i++) {
            BeggarHeaps x = Checks.with(KINDS + "lay " + orders[i] + ";", "left plain ace ; right jack 4 plain ;");
            x.turn(1 + 1 + 1 + 4);
            due("a heap of 7", 7, x.taken(0, 1));
            due("makers", 2, x.taken(0, 2));
            due("turned round", 1, x.taken(0, 3));
            Checks.dueText(orders[i], due[i], Checks.rowOf(x, 0));
        }
    }
}
