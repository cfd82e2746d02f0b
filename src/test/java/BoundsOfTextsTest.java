/** The bounds that the document names for TAPE, TOKENS, TABLE, DEAL, BOOK and E; each sentence stands above its test. */
public final class BoundsOfTextsTest {
    private static final String KINDS = "kind ace pays 4 ; kind jack pays 1 ; kind plain pays 0 ; ";
    private static final String RESERVED = "kind pays pack lay first bet limit under about high low halves left right"
        + " nobody opening won not and or";
    private static final long BLANKS = 0x2020202020202020L;

    public static void main(String[] args) {
        callsOfAnObject();
        signsOnTheTape();
        signsThatCount();
        highestByteFirst();
        readingTakesTheTape();
        words();
        numbers();
        otherSigns();
        blanks();
        theEnd();
        behindTheEnd();
        kinds();
        pays();
        packs();
        packsTogether();
        laws();
        limits();
        onceEach();
        dealRows();
        dealNumbers();
        books();
        bookRows();
        names();
        nesting();
        nestingComesBack();
        wrapping();
        offers();
        leastFault();
        firstWrongToken();
        facts();
        afterATable();
        tableAfterTable();
        faultsBetween();
        afterADeal();
        afterABook();
        Checks.finish("BoundsOfTextsTest");
    }

    private static void due(String call, long want, long got) {
        Checks.due(call, want, got);
    }

    private static void table(String text, int kind, int place) {
        due("table() of " + text, kind + 16 * place, Checks.table(new BeggarHeaps(), text));
    }

    private static void deal(String text, int kind, int place) {
        due("deal() of " + text, kind + 16 * place, Checks.deal(Checks.with(KINDS, null), text));
    }

    private static void book(String text, int kind, int place) {
        due("book() of " + text, kind + 16 * place, Checks.book(Checks.with(KINDS, null), text));
    }

    private static void fine(String text) {
        table(text, 0, 0);
    }

    private static String times(int many, String text) {
        return text.repeat(many);
    }

    private static BeggarHeaps fed(int signs) {
        BeggarHeaps x = new BeggarHeaps();
        Checks.feed(x, times(signs, " "));
        due("signs", signs, x.count(18));
        return x;
    }

    private static long first(int sign) {
        return (long) sign << 56;
    }

    /** "An object is used for at most 512 calls after it has been made": the 512th is answered like the first. */
    private static void callsOfAnObject() {
        BeggarHeaps x = new BeggarHeaps();
        Checks.feed(x, "kind jack pays 1 ; kind plain pays 0 ; lay low ;");
        due("3rd call", 0, x.table());
        Checks.feed(x, "left jack plain ; right plain jack ;");
        due("6th call", 0, x.deal());
        for (int i = 7; i <= 507; i++) {
            due("call " + i, 1000, x.turn(1000));
        }
        due("508th call: turns", 501000, x.count(8));
        // One heap behind 2 turns, then one every 3: 1 + 500,998 / 3.
        due("509th call: heaps", 167000, x.count(9));
        due("510th call: the 40th heap kept", 3, x.taken(39, 1));
        due("511th call", 1, x.undo() ? 1 : 0);
        due("512th call", 500000, x.count(8));
    }

    /** "The TAPE has at most 1,000 signs"; "what is beyond 1,000, are left out: how many there are". */
    private static void signsOnTheTape() {
        due("nothing", 0, new BeggarHeaps().feed(0, 0, 0));
        BeggarHeaps x = fed(998);
        due("999", 999, x.feed(first(' '), 0, 0));
        due("1,000", 1000, x.feed(first(';'), 0, 0));
        due("no 1,001st", 1000, x.feed(first('?'), 0, 0));
        due("the 1,000th was read", 1 + 16 * 999, x.table());
        x = fed(1000);
        due("no 1,001st", 1000, x.feed(first(';'), first(';'), first(';')));
        due("1,000 blanks", 0, x.table());
        x = fed(990);
        due("10 of 24", 1000, x.feed(0x6c696d6974203939L, 0x3b3b3b3b3b3b3b3bL, 0x3b3b3b3b3b3b3b3bL));
        due("limit 99;; : the second ; is the 1,000th", 1 + 16 * 999, x.table());
        x = fed(990);
        due("signs that are left out take no place", 998, x.feed(0x00ff6c01696d0269L, 0x740739397f3b00L, 0));
        due("limit99;", 0, x.table());
        due("it was read", 99, x.count(16));
        x = fed(1000);
        x.table();
        due("empty again: 24 find place", 24, x.feed(BLANKS, BLANKS, BLANKS));
    }

    /** "10 and 32 .. 126"; "others than 10 and 32 .. 126 ... are left out". */
    private static void signsThatCount() {
        for (int sign = 0; sign <= 255; sign++) {
            int due = sign == 10 || sign >= 32 && sign <= 126 ? 1 : 0;
            for (int place = 0; place < 24; place++) {
                long bits = (long) sign << 56 - 8 * (place % 8);
                long got = new BeggarHeaps().feed(place / 8 == 0 ? bits : 0, place / 8 == 1 ? bits : 0, place / 8 == 2 ? bits : 0);
                due("sign " + sign + " as byte " + place, due, got);
            }
        }
        due("9, 10, 11", 1, new BeggarHeaps().feed(0x090a0b0000000000L, 0, 0));
        due("31, 32, 33", 2, new BeggarHeaps().feed(0x1f20210000000000L, 0, 0));
        due("125, 126, 127", 2, new BeggarHeaps().feed(0x7d7e7f0000000000L, 0, 0));
        due("all 24", 24, new BeggarHeaps().feed(0x7e7e7e7e7e7e7e7eL, BLANKS, 0x0a0a0a0a0a0a0a0aL));
    }

    /** "the bytes of a, b, c, of each the highest first". */
    private static void highestByteFirst() {
        BeggarHeaps x = new BeggarHeaps();
        due("l i m i t, 1 1, ;", 8, x.feed(0x6c00696d00006974L, 0x0000310000003100L, 0x000000000000003bL));
        due("it is read", 0, x.table());
        due("limit 11", 11, x.count(16));
    }

    /** "what reads it takes it: it is empty then", with a fault and without. */
    private static void readingTakesTheTape() {
        String[] texts = {"", "limit 10;", "left ;", "opening , won left ;", "?"};
        for (String text : texts) {
            for (int by = 0; by < 3; by++) {
                BeggarHeaps x = new BeggarHeaps();
                Checks.feed(x, text);
                int answer = by == 0 ? x.table() : by == 1 ? x.deal() : x.book();
                due("empty then", 0, x.count(18));
                due("read as nothing then", 0, x.table() + x.deal() + x.book());
                due("fed anew", 1, x.feed(first('?'), 0, 0));
                due("a fault at 0", 1, x.deal());
                due("at most one can read " + text, answer == 0 ? 0 : 1, answer % 16);
            }
        }
    }

    /** "WORDS (letters a .. z, 8 at most)"; "a longer WORD ... at its first sign ... is none". */
    private static void words() {
        fine("kind z pays 1 ;");
        fine("kind abcdefg pays 1 ;");
        fine("kind stuvwxyz pays 1 ;");
        table("kind abcdefghi pays 1 ;", 1, 5);
        table("kind " + times(900, "a") + " pays 1 ;", 1, 5);
        table("kind `a pays 1 ;", 1, 5);
        table("kind {a pays 1 ;", 1, 5);
        table("kind a` pays 1 ;", 1, 6);
        table("kind z{ pays 1 ;", 1, 6);
        table("kind Ab pays 1 ;", 1, 5);
        table("kind aB pays 1 ;", 1, 6);
        table("kinds a pays 1 ;", 1, 0);
        table("kin a pays 1 ;", 1, 0);
        // Eight letters tell two names apart, the last one as well as the first one.
        fine("kind aaaaaaaa pays 1 ; kind aaaaaaab pays 1 ; kind baaaaaaa pays 1 ; kind aaaaaaa pays 1 ;");
        table("kind aaaaaaaa pays 1 ; kind aaaaaaaa pays 1 ;", 3, 28);
    }

    /** "NUMBERS (1 to 4 digits; a letter may stand right behind)"; "a longer ... NUMBER ... at its first sign". */
    private static void numbers() {
        fine("bet 0 ;");
        fine("bet 9 ;");
        fine("bet 999 ;");
        fine("bet 9999 ;");
        table("bet 10000 ;", 1, 4);
        table("bet 00000 ;", 1, 4);
        table("bet " + times(900, "1") + " ;", 1, 4);
        table("bet /1 ;", 1, 4);
        table("bet :1 ;", 1, 4);
        table("bet 1/ ;", 1, 5);
        table("bet 1: ;", 1, 5);
        fine("bet 1and 2or 3 ;");
        fine("limit0010;");
        table("limit 10x ;", 1, 8);
        table("limit 00010 ;", 1, 6);
        due("0010 is 10", 10, Checks.with("limit 0010 ;", null).count(16));
        due("2plain", 0, Checks.deal(Checks.with(KINDS, null), "left2plain3jack;"));
    }

    /** "the signs ( ) < = + - * , ;  All else ... is none". */
    private static void otherSigns() {
        fine("bet(1)<2+3-4*5;");
        fine("bet(1)=2;");
        due("a comma", 0, Checks.book(Checks.with(KINDS, null), "opening,won left;"));
        String none = "!\"#$%&'./:>?@[\\]^_`{|}~AZ";
        for (char c : none.toCharArray()) {
            table("bet 1 " + c + " 1 ;", 1, 6);
            table(c + "", 1, 0);
            table("lay low ;" + c, 1, 9);
        }
    }

    /** "blanks (10, 32) between where one likes". */
    private static void blanks() {
        fine("kind a pays 1;lay low;");
        fine("\n\n kind\na\n\npays 1\n;\nlay\n low ;\n ");
        fine("bet not(not 1)and(2<3);");
        table("kin d a pays 1 ;", 1, 0);
        table("kind apays 1 ;", 1, 11);
        table("limit 1 0 ;", 4, 6);
        fine(" ");
        fine("\n");
        fine(times(1000, "\n"));
    }

    /** "the end being one at the text's length". */
    private static void theEnd() {
        table("lay", 1, 3);
        table("lay low", 1, 7);
        table("lay low  \n ", 1, 11);
        table("lay low" + times(992, " "), 1, 999);
        table("lay low" + times(993, " "), 1, 1000);
        table("lay low" + times(992, " ") + ";", 0, 0);
        deal("left", 1, 4);
        deal("left 2", 1, 6);
        book("opening , won left", 1, 18);
        book("opening", 1, 7);
    }

    /** Signs of a longer text that was read before are no more there; nor is one behind the 1,000th. */
    private static void behindTheEnd() {
        String[] before = {"limit 1055", "layx lowlow", "limit 10 ;;;", "bet 12345678901234567890"};
        String[] texts = {"limit 10", "lay low", "limit 10", "bet 1234"};
        for (int i = 0; i < texts.length; i++) {
            for (String first : before) {
                BeggarHeaps x = new BeggarHeaps();
                Checks.table(x, first);
                due(texts[i] + " behind " + first, 1 + 16 * texts[i].length(), Checks.table(x, texts[i]));
            }
            String full = times(1000 - texts[i].length(), " ") + texts[i];
            table(full, 1, 1000);
            table(full + ";", 1, 1000);
            table(full.substring(1) + ";", 0, 0);
        }
        BeggarHeaps x = Checks.with(KINDS, null);
        due("a longer row", 0, Checks.deal(x, "left 3 plain jack ; right 5 jack plain ;"));
        due("a shorter one", 0, Checks.deal(x, "left jack ; right jack ;"));
        Checks.dueText("nothing of the longer one", "1/1", Checks.rowOf(x, 0) + "/" + Checks.rowOf(x, 1));
    }

    private static String kindLines(int many) {
        StringBuilder b = new StringBuilder();
        for (int i = 0; i < many; i++) {
            b.append("kind ").append((char) ('a' + i)).append(" pays ").append(i % 7).append(" ; ");
        }
        return b.toString();
    }

    /** "kind: 8 at most, numbered as told"; "5 one too many: the words kind of a ninth". */
    private static void kinds() {
        for (int many = 0; many <= 8; many++) {
            BeggarHeaps x = Checks.with(kindLines(many), null);
            due("kinds", many, x.count(0));
            due("behind the last", -1, x.kind(many, 0));
            for (int i = 0; i < many; i++) {
                due("numbered as told", i % 7, x.kind(i, 0));
            }
        }
        int at = kindLines(8).length();
        table(kindLines(9), 5, at);
        table(kindLines(8) + "kind", 5, at);
        table(kindLines(8) + "kind a pays 1 ;", 5, at);
        table(kindLines(8) + "kind 9 ;", 5, at);
        fine(kindLines(8) + "lay low ; pack h 1 ;");
        table(kindLines(8) + "lay kind ;", 1, at + 4);
        table(kindLines(8) + "kinds ;", 1, at);
    }

    /** "pays 0 to 6". */
    private static void pays() {
        for (int pays = 0; pays <= 6; pays++) {
            due("pays", pays, Checks.with("kind a pays " + pays + " ;", null).kind(0, 0));
        }
        table("kind a pays 7 ;", 4, 12);
        table("kind a pays 9999 ;", 4, 12);
        table("kind a pays - 1 ;", 1, 12);
        table("kind a pays ;", 1, 12);
    }

    /** "pack: so many cards (0 to 12) of a KIND told, each KIND once". */
    private static void packs() {
        int at = KINDS.length();
        for (int cards : new int[] {0, 1, 11, 12}) {
            BeggarHeaps x = Checks.with(KINDS + "pack jack " + cards + " ;", null);
            due("cards", cards, x.count(1));
            due("of jack", cards, x.kind(1, 1));
            due("of plain", 0, x.kind(2, 1));
        }
        due("without a line", 0, Checks.with(KINDS, null).count(1));
        table(KINDS + "pack jack 13 ;", 4, at + 10);
        table(KINDS + "pack jack 12 ; pack jack 0 ;", 3, at + 20);
        table(KINDS + "pack jack 0 ; pack jack 0 ;", 3, at + 19);
        table(KINDS + "pack queen 1 ;", 2, at + 5);
        table("pack jack 1 ; " + KINDS, 2, 5);
    }

    /** "24 together at most"; "with it more than 24 cards in the pack, too". */
    private static void packsTogether() {
        String two = KINDS + "pack ace 12 ; pack jack 11 ; ";
        due("23", 23, Checks.with(two, null).count(1));
        due("23 and 0", 23, Checks.with(two + "pack plain 0 ;", null).count(1));
        due("24", 24, Checks.with(two + "pack plain 1 ;", null).count(1));
        table(two + "pack plain 2 ;", 4, two.length() + 11);
        String full = KINDS + "pack ace 12 ; pack jack 12 ; ";
        due("24 and 0", 24, Checks.with(full + "pack plain 0 ;", null).count(1));
        table(full + "pack plain 1 ;", 4, full.length() + 11);
        table(full + "pack plain 13 ;", 4, full.length() + 11);
        table(full + "pack ace 1 ;", 3, full.length() + 5);
        String eight = kindLines(8);
        for (char c = 'a'; c <= 'h'; c++) {
            eight += "pack " + c + " 3 ; ";
        }
        due("eight times three", 24, Checks.with(eight, null).count(1));
    }

    /** "ORDER: under, about, high, low, halves (under without a line). SIDE: left, right (left)". */
    private static void laws() {
        String[] orders = {"under", "about", "high", "low", "halves"};
        for (int i = 0; i < 5; i++) {
            due(orders[i], i, Checks.with("lay " + orders[i] + " ;", null).count(17));
        }
        BeggarHeaps x = Checks.with("", null);
        due("under without a line", 0, x.count(17));
        due("left without a line", 0, x.count(5));
        due("1000 without a line", 1000, x.count(16));
        due("10 without bet", 10, x.offer());
        due("first left", 0, Checks.with("first left ;", null).count(5));
        due("first right", 1, Checks.with("first right ;", null).count(5));
        for (String word : (RESERVED + " ahead word").split(" ")) {
            boolean order = word.equals("under") || word.equals("about") || word.equals("high") || word.equals("low")
                || word.equals("halves");
            boolean side = word.equals("left") || word.equals("right");
            table("lay " + word + " ;", order ? 0 : 1, order ? 0 : 4);
            table("first " + word + " ;", side ? 0 : 1, side ? 0 : 6);
        }
    }

    /** "limit: 10 to 3000 (1000)". */
    private static void limits() {
        for (int limit : new int[] {10, 11, 2999, 3000}) {
            due("limit", limit, Checks.with("limit " + limit + " ;", null).count(16));
        }
        for (int limit : new int[] {0, 9, 3001, 9999}) {
            table("limit " + limit + " ;", 4, 6);
        }
        table("limit low ;", 1, 6);
    }

    /** "lay, first, bet, limit: once each"; "3 ... a second time". */
    private static void onceEach() {
        String[] lines = {"lay low ; ", "first left ; ", "bet 1 ; ", "limit 10 ; "};
        String four = "";
        for (String line : lines) {
            table(line + line, 3, line.length());
            table(line + "kind a pays 1 ; " + line.split(" ")[0], 3, line.length() + 16);
            four += line;
        }
        fine(four);
        // As they are without a line, once told, is once told, too.
        table("lay under ; lay low ;", 3, 12);
        table("limit 1000 ; limit 10 ;", 3, 13);
        BeggarHeaps x = Checks.with(four, null);
        due("in another table they are told anew", 0, Checks.table(x, four));
    }

    /** "left ROW ; right ROW ; each once; ROW: 0 to 24 cards"; "the NAME with which a ROW has too many cards". */
    private static void dealRows() {
        for (int cards : new int[] {0, 1, 23, 24}) {
            BeggarHeaps x = Checks.with(KINDS, "right " + times(cards, "plain ") + "; left " + times(cards, "jack ") + ";");
            due("left's", cards, x.count(2));
            due("right's", cards, x.count(3));
            due("the last one", cards > 0 ? 1 : -1, x.card(0, cards - 1));
            due("behind it", -1, x.card(0, cards));
        }
        deal("left " + times(25, "ace "), 5, 5 + 24 * 4);
        deal("right ; left " + times(25, "ace "), 5, 13 + 24 * 4);
        deal("left 12 ace 12 ace ace ;", 5, 19);
        deal("left 12 ace 11 ace ace ;", 0, 0);
        deal("left 12 ace 11 ace 2 ace ;", 5, 21);
        deal("left 12 ace 12 ace ; right 12 ace 12 ace ;", 0, 0);
        deal("left 12 ace 12 ace ; right 12 ace 12 ace ace ;", 5, 41);
        deal("", 0, 0);
        deal("left ;", 0, 0);
        deal("left ; right ; left ;", 3, 15);
        deal("right ; right", 3, 8);
        deal("left ; right ; right ace", 3, 15);
        deal("left left ;", 1, 5);
    }

    /** "N NAME (so many of it, 1 to 12)". */
    private static void dealNumbers() {
        deal("left 0 ace ;", 4, 5);
        deal("left 13 ace ;", 4, 5);
        deal("left 9999 ace ;", 4, 5);
        deal("left 12 ;", 1, 8);
        deal("left 1 1 ace ;", 1, 7);
        deal("left 1 won ;", 1, 7);
        for (int many : new int[] {1, 2, 11, 12}) {
            due("so many", many, Checks.with(KINDS, "left " + many + " ace ;").count(2));
        }
    }

    /** "opening ROW , ROW won WHO ;   12 at most"; "opening of a 13th". */
    private static void books() {
        String line = "opening , won nobody ;";
        for (int many : new int[] {0, 1, 11, 12}) {
            BeggarHeaps x = Checks.with(KINDS, null);
            due("book", 0, Checks.book(x, times(many, line)));
            due("openings", many, x.count(13));
            due("all fit", many, x.opening(0));
            due("by nobody", many, x.opening(3));
        }
        book(times(13, line), 5, 12 * line.length());
        book(times(12, line) + "opening", 5, 12 * line.length());
        book(times(12, line) + "won", 1, 12 * line.length());
        for (String word : (RESERVED + " ace word").split(" ")) {
            boolean who = word.equals("left") || word.equals("right") || word.equals("nobody");
            book("opening , won " + word + " ;", who ? 0 : 1, who ? 0 : 14);
        }
        book("opening , won 1 ;", 1, 14);
        book("opening , won ;", 1, 14);
    }

    /** "the first cards of left, of right (0 to 6 each)". */
    private static void bookRows() {
        for (int cards : new int[] {0, 1, 5, 6}) {
            String row = times(cards, "ace ");
            book("opening " + row + ", " + row + "won left ;", 0, 0);
        }
        book("opening " + times(7, "ace ") + ", won left ;", 5, 8 + 24);
        book("opening , " + times(7, "ace ") + "won left ;", 5, 10 + 24);
        book("opening 6 ace , 6 ace won left ;", 0, 0);
        book("opening 5 ace 1 ace , won left ;", 0, 0);
        book("opening 7 ace , won left ;", 5, 10);
        book("opening , 7 ace won left ;", 5, 12);
        book("opening 5 ace 2 ace , won left ;", 5, 16);
        book("opening 12 ace , won left ;", 5, 11);
        book("opening 13 ace , won left ;", 4, 8);
        book("opening 0 ace , won left ;", 4, 8);
        book("opening 7 queen , won left ;", 2, 10);
    }

    /** "A NAME is another WORD than kind, pays, ..."; "no two are alike". */
    private static void names() {
        for (String word : RESERVED.split(" ")) {
            table("kind " + word + " pays 1 ;", 1, 5);
            table("pack " + word + " 1 ;", 1, 5);
            boolean ends = word.equals("won");
            deal("left " + word + " ;", 1, 5);
            book("opening , " + word + " won left ;", 1, ends ? 14 : 10);
        }
        for (String word : "ahead more heaps turns a order zzzzzzzz".split(" ")) {
            BeggarHeaps x = Checks.with("kind " + word + " pays 1 ; pack " + word + " 2 ; bet turns ;", "left " + word + " ;");
            due("its card", 0, x.card(0, 0));
            due("the fact is still a fact", 0, x.offer());
            table("kind " + word + " pays 1 ; kind " + word, 3, word.length() + 20);
        }
    }

    /** "no PART lies within 5 of not and ( )"; "not, or a PART, within 5 others". */
    private static void nesting() {
        String[] opens = {"not ", "( "};
        for (int mix = 0; mix < 32; mix++) {
            String four = "bet ";
            String close = "";
            for (int i = 0; i < 4; i++) {
                four += opens[mix >> i & 1];
                close += (mix >> i & 1) == 1 ? ") " : "";
            }
            String five = four + opens[mix >> 4];
            String closeFive = (mix >> 4 == 1 ? ") " : "") + close;
            fine(four + "1 " + close + ";");
            fine(four + "turns " + close + ";");
            table(five + "1 " + closeFive + ";", 5, five.length());
            table(five + "turns " + closeFive + ";", 5, five.length());
            table(five + "not 1 " + closeFive + ";", 5, five.length());
            table(five + "( 1 ) " + closeFive + ";", 5, five.length());
            table(five + ") ;", 1, five.length());
            table(five + "and 1 ;", 1, five.length());
            table(five + "queen ;", 1, five.length());
            table(five, 1, five.length());
        }
    }

    private static void nestingComesBack() {
        fine("bet (((1)))+(((1)))+not not not 1;");
        fine("bet (((1)*(2))) ;");
        fine("bet ((((1))))*((((1))));");
        table("bet ((((1))))*(((((1)))));", 5, 19);
        table("bet ((((1+(2)))));", 5, 11);
        fine("bet (((1+(2))));");
        table("bet not not not not (1);", 5, 21);
        fine("bet not not not (1);");
    }

    private static int offerOf(String e) {
        return Checks.with(KINDS + "bet " + e + " ;", "left ace ; right 3 plain ;").offer();
    }

    /** "Of not, and, or, < and = comes 1 or 0; what is not 0 is so; ints wrap". */
    private static void wrapping() {
        String two31 = "4096 * 4096 * 128";
        due("2^31 - 1", 99, offerOf(two31 + " - 1"));
        due("2^31 is below 0", 0, offerOf(two31));
        due("2^31 < 0", 1, offerOf(two31 + " < 0"));
        due("2^31 - 1 < 0", 0, offerOf(two31 + " - 1 < 0"));
        due("2^31 - 1 + 1 = 2^31", 1, offerOf("( " + two31 + " - 1 ) + 1 = " + two31));
        due("0 - 2^31 = 2^31", 1, offerOf("0 - " + two31 + " = " + two31));
        due("2^32 is 0", 0, offerOf("not not ( " + two31 + " * 2 )"));
        due("2^32 + 7", 7, offerOf(two31 + " * 2 + 7"));
        due("0 - 2^31 - 1 is 2^31 - 1", 99, offerOf("0 - " + two31 + " - 1"));
        due("below 0 is so", 1, offerOf("( 0 - 1 ) and 1"));
        due("not of below 0", 0, offerOf("not ( 0 - 1 )"));
        for (int a = 0; a <= 2; a++) {
            due("not " + a, a == 0 ? 1 : 0, offerOf("not " + a));
            due("not not " + a, a == 0 ? 0 : 1, offerOf("not not " + a));
            due("7 + not " + a, a == 0 ? 8 : 7, offerOf("7 + not " + a));
            for (int b = 0; b <= 2; b++) {
                due(a + " and " + b, a > 0 && b > 0 ? 1 : 0, offerOf(a + " and " + b));
                due(a + " or " + b, a > 0 || b > 0 ? 1 : 0, offerOf(a + " or " + b));
                due(a + " < " + b, a < b ? 1 : 0, offerOf(a + " < " + b));
                due(a + " = " + b, a == b ? 1 : 0, offerOf(a + " = " + b));
            }
        }
        due("ahead: 1 - 3", 1, offerOf("ahead = 0 - 2"));
        due("more: 4 - 0", 4, offerOf("more"));
    }

    /** "OFFER: the E of bet now (0 if it is below, 99 above)". */
    private static void offers() {
        due("-1", 0, offerOf("0 - 1"));
        due("0", 0, offerOf("0"));
        due("1", 1, offerOf("1"));
        due("98", 98, offerOf("98"));
        due("99", 99, offerOf("99"));
        due("100", 99, offerOf("100"));
        due("9999", 99, offerOf("9999"));
        due("0 - 9999", 0, offerOf("0 - 9999"));
    }

    /** "of the first token from the left that is wrong the least". */
    private static void leastFault() {
        deal("left 12 ace 12 ace queen ;", 2, 19);
        deal("left 12 ace 12 ace 13 ace ;", 4, 19);
        deal("left 12 ace 12 ace won ;", 1, 19);
        table("kind ace pays 1 ; pack ace 13 ;", 4, 27);
        table("kind ace pays 1 ; pack ace 0 ; pack ace ?", 3, 36);
        table("lay low ; lay ?", 3, 10);
        table("bet 1 ; bet ?", 3, 8);
        book("opening 6 ace queen , won left ;", 2, 14);
    }

    private static void firstWrongToken() {
        table("kind a pays 7 ; kind a pays 9 ; ?", 4, 12);
        table("kind a pays 1 ; kind a pays 9 ; ?", 3, 21);
        deal("left queen ; left ;", 2, 5);
        deal("left ; left queen ;", 3, 7);
        book("opening queen , queen won queen ;", 2, 8);
        book("opening , queen won queen ;", 2, 10);
        book("opening , won queen ;", 1, 14);
    }

    /** "Facts: ahead ..., more ..., heaps (how many were taken), turns (how many cards were turned)". */
    private static void facts() {
        // Turned: jack plain (left's heap), ace.
        int[] ahead = {-2, -3, 0, -1};
        int[] more = {-4, -5, -4, -8};
        int[] heaps = {0, 0, 1, 1};
        for (int turns = 0; turns <= 3; turns++) {
            for (String fact : new String[] {"ahead", "more", "heaps", "turns"}) {
                BeggarHeaps x = Checks.with(KINDS + "bet 50 + " + fact + " ;", "left jack ace plain ; right plain 2 ace jack plain ;");
                if (turns > 0) {
                    x.turn(turns);
                }
                int due = fact.equals("ahead") ? ahead[turns] : fact.equals("more") ? more[turns] : fact.equals("heaps") ? heaps[turns] : turns;
                due(fact + " behind " + turns, 50 + due, x.offer());
            }
        }
        BeggarHeaps x = Checks.with(KINDS + "bet 0 ;", "left plain ; right plain ;");
        x.turn(1);
        due("0 is 0, whatever was turned", 0, x.offer());
    }

    /** "Without a FAULT a TABLE is the TABLE from then on, both rows are empty, the BOOK too, no MARK is there." */
    private static void afterATable() {
        for (String text : new String[] {"", KINDS + "pack ace 2 ; first right ;"}) {
            BeggarHeaps x = Checks.with(KINDS + "pack jack 1 ; lay low ; limit 20 ; bet 7 ;", "left jack 3 plain ; right 3 plain ;");
            Checks.book(x, "opening , won left ;");
            x.bet(0, 5);
            x.turn(3);
            x.comes(2);
            for (int mark = 0; mark <= 3; mark++) {
                x.mark(mark, false);
            }
            x.slip(1);
            Looks.at(x);
            due("a table", 0, Checks.table(x, text));
            Checks.dueText("as a new object with it", Looks.deep(Checks.with(text, null)), Looks.deep(x));
        }
    }

    /** One TABLE behind the other in one object: nothing of an earlier one is left. */
    private static void tableAfterTable() {
        String[] tables = {kindLines(8) + "pack a 1 ; pack h 2 ; lay low ; first right ; bet 5 + turns ; limit 20 ;",
            KINDS + "pack jack 2 ; pack plain 2 ; lay low ; limit 40 ;", KINDS + "pack ace 1 ; pack plain 3 ;", "",
            KINDS + "pack jack 3 ; pack plain 2 ; lay high ; first right ;", "first right ;", "limit 10 ;", KINDS, "bet 3 ;", "lay about ;",
            KINDS + "pack jack 2 ; pack plain 2 ; lay about ; bet more ;", KINDS + "pack jack 2 ; pack plain 2 ; lay low ; limit 3000 ;"};
        BeggarHeaps x = new BeggarHeaps();
        for (int round = 0; round < 3; round++) {
            for (int i = 0; i < tables.length; i++) {
                String text = tables[i * 5 % 12];
                due("table", 0, Checks.table(x, text));
                Checks.dueText("as in a new object: " + text, Looks.deep(Checks.with(text, null)), Looks.deep(x));
                due("likewise", 0, Checks.table(x, tables[(i + round) % 12]));
            }
        }
    }

    /** A TABLE, DEAL or BOOK with a FAULT is nobody's: what is read next goes by the TABLE that is. */
    private static void faultsBetween() {
        for (String fault : new String[] {"kind plain pays 6 ; kind a pays 1 ; ?", "?", "kind b pays 0 ; pack b 12 ; limit"}) {
            BeggarHeaps x = Checks.with(KINDS, null);
            due("a fault", 1, Checks.table(x, fault) % 16);
            due("a book", 0, Checks.book(x, "opening plain , jack won left ;"));
            due("a fault", 1, Checks.table(x, fault) % 16);
            due("a deal", 0, Checks.deal(x, "left plain ; right jack ;"));
            due("its card", 2, x.card(0, 0));
            due("it fits", 1, x.opening(1));
            due("a name of the one with a fault", 2 + 16 * 5, Checks.deal(x, "left b ;"));
            due("a name of the one with a fault", 2 + 16 * 8, Checks.book(x, "opening a ,"));
        }
    }

    /** "A DEAL gives left and right their rows (a side that is not told none): a new GAME." */
    private static void afterADeal() {
        String table = KINDS + "first right ; bet 3 + turns ;";
        for (String deal : new String[] {"", "left 2 plain ;", "right ace plain ;", "right jack ; left plain ;"}) {
            BeggarHeaps x = Checks.with(table, "left jack 3 plain ; right 3 plain ;");
            x.bet(0, 5);
            x.turn(5);
            x.comes(2);
            x.slip(1);
            Looks.at(x);
            due("a deal", 0, Checks.deal(x, deal));
            Checks.dueText("as a new object with it", Looks.deep(Checks.with(table, deal)), Looks.deep(x));
        }
    }

    /** "A BOOK is the BOOK." All else stays. */
    private static void afterABook() {
        BeggarHeaps x = Checks.with(KINDS, "left jack 3 plain ; right 3 plain ;");
        BeggarHeaps y = Checks.with(KINDS, "left jack 3 plain ; right 3 plain ;");
        Checks.book(x, "opening 6 ace , won left ; opening ace , 6 ace won right ; opening , won nobody ;");
        x.turn(3);
        y.turn(3);
        Checks.book(x, "opening jack , won right ;");
        Checks.book(y, "opening jack , won right ;");
        due("the one opening", 1, x.count(13));
        due("fits", 1, x.opening(2));
        Checks.dueText("as if the first book had not been", Looks.deep(y), Looks.deep(x));
        x = Checks.with(KINDS, "left jack ; right ;");
        Checks.book(x, "opening jack , won left ;");
        due("an empty one", 0, Checks.book(x, ""));
        due("no opening", 0, x.count(13));
        due("none fits", 0, x.opening(0));
    }
}
