import java.util.NoSuchElementException;

/** Beggar my neighbour: tables, deals, games by hand, how they end, odds, bets, and what can be undone. */
public final class BeggarHeaps {
    public static final int NONE = -1;

    private static final int LEFT = 0;
    private static final int RIGHT = 1;

    private static final int KINDS = 8;
    private static final int ROW_CARDS = 24;
    private static final int UNDO_MOST = 16;
    private static final int MARKS = 4;
    private static final int KEPT_MOST = 40;
    private static final int BETS_MOST = 8;
    private static final int COMES_MOST = 12;
    private static final int LEAD_HEAPS = 20;

    // The ORDERS by their numbers.
    private static final int UNDER = 0;
    private static final int ABOUT = 1;
    private static final int HIGH = 2;
    private static final int LOW = 3;
    private static final int HALVES = 4;
    private static final int ORDERS = 5;

    // What a TURN comes to: nobody can turn, a card was turned, a card was turned and the HEAP is to be taken.
    private static final int LOST = 0;
    private static final int TURNED = 1;
    private static final int DUE = 2;

    // How a GAME ENDS beside 0 left and 1 right.
    private static final int GOES_ROUND = 2;
    private static final int NO_END = 3;

    private final Tape tape = new Tape();
    private Table table = new Table();
    private Table spareTable = new Table();
    private Book book = new Book();
    private Book spareBook = new Book();
    private final Reader reader = new Reader(tape, table, book);
    private final Game game = new Game();
    private final Game[] past = new Game[UNDO_MOST];
    private int pastNext;
    private int pastMany;
    private final Game[] marks = new Game[MARKS];
    private final boolean[] marked = new boolean[MARKS];
    private final Rows rows = new Rows();
    private final Ending ending = new Ending();
    private final Study study = new Study(rows, ending);
    private final Odds odds = new Odds(rows, ending);
    private final Laying laying = new Laying();
    private final int[] endsFound = new int[4];
    private boolean endsKnown;

    public BeggarHeaps() {
        game.startEmpty(table);
    }

    public int feed(long a, long b, long c) {
        tape.addEight(a);
        tape.addEight(b);
        tape.addEight(c);
        return tape.length;
    }

    public int table() {
        int fault = reader.readTable(spareTable);
        if (fault == 0) {
            Table old = table;
            table = spareTable;
            spareTable = old;
            book.reset();
            for (int i = 0; i < MARKS; i++) {
                marked[i] = false;
            }
            study.forget();
            game.startEmpty(table);
            gameBegan();
        }
        return fault;
    }

    public int deal() {
        int fault = reader.readDeal(table);
        if (fault == 0) {
            game.dealRows(reader.cards, reader.many[LEFT], reader.many[RIGHT]);
            game.startDealt(table);
            gameBegan();
        }
        return fault;
    }

    public int book() {
        int fault = reader.readBook(table, spareBook);
        if (fault == 0) {
            Book old = book;
            book = spareBook;
            spareBook = old;
        }
        return fault;
    }

    public int kind(int kind, int what) {
        if (kind < 0 || kind >= table.kinds) {
            return NONE;
        }
        switch (what) {
            case 0: return table.pays[kind];
            case 1: return table.pack[kind];
            case 2: return game.play.countInRow(LEFT, kind);
            case 3: return game.play.countInRow(RIGHT, kind);
            case 4: return game.play.countOnHeap(kind);
            default: return NONE;
        }
    }

    public int card(int side, int i) {
        if (!isSide(side) || i < 0 || i >= game.play.many[side]) {
            return NONE;
        }
        return game.play.kindAt(side, i);
    }

    public int heap(int i) {
        if (i < 0 || i >= game.play.onHeap) {
            return NONE;
        }
        return game.play.heap[i];
    }

    public int taken(int i, int what) {
        return game.keptHeap(i, what);
    }

    public int turn(int many) {
        if (many < 1 || many > 1000) {
            return NONE;
        }
        if (game.play.won != NONE) {
            return 0;
        }
        remember();
        int turned = 0;
        for (int i = 0; i < many && game.turnByHand(table.lay); i++) {
            turned++;
        }
        gameChanged();
        return turned;
    }

    public boolean slip(int slip) {
        if (!game.canSlip(slip)) {
            return false;
        }
        remember();
        game.doSlip(slip, table.lay);
        gameChanged();
        return true;
    }

    public boolean undo() {
        if (pastMany <= 0) {
            return false;
        }
        int slot = (pastNext + UNDO_MOST - 1) % UNDO_MOST;
        Game before = past[slot];
        if (before == null) {
            return false;
        }
        game.copyFrom(before);
        pastNext = slot;
        pastMany--;
        gameChanged();
        return true;
    }

    public boolean again() {
        if (!game.wasDealt) {
            return false;
        }
        game.startDealt(table);
        gameBegan();
        return true;
    }

    public int ends(int what) {
        if (what < 0 || what > 3) {
            return NONE;
        }
        if (!endsKnown) {
            endsKnown = true;
            ending.play.copyFrom(game.play);
            ending.go(table.lay, table.limit);
            endsFound[0] = ending.result;
            endsFound[1] = ending.turns;
            endsFound[2] = ending.heaps;
            endsFound[3] = ending.round;
        }
        return endsFound[what];
    }

    public int all(int what) {
        if (what < 0 || what > 6 || !study.canAsk(table)) {
            return NONE;
        }
        study.studyAll(table);
        return study.allFound[what];
    }

    public int row(int number, int i) {
        if (!study.canAsk(table) || number < 0 || number >= rows.howMany(table.pack)) {
            return NONE;
        }
        if (i < 0 || i >= table.cards) {
            return NONE;
        }
        rows.toNumber(table.pack, number);
        return rows.cards[i];
    }

    public int beginner(int what) {
        if (what < 0 || what > 2 || !study.canAsk(table)) {
            return NONE;
        }
        study.studyBeginner(table);
        return study.beginnerFound[what];
    }

    public int worth(int kind, int what) {
        if (kind < 0 || kind >= table.kinds || what < 0 || what > 1 || !study.canAsk(table)) {
            return NONE;
        }
        study.studyAll(table);
        return study.worthFound[kind * 2 + what];
    }

    public int leads(int heaps, int what) {
        if (heaps < 1 || heaps > LEAD_HEAPS || what < 0 || what > 3 || !study.canAsk(table)) {
            return NONE;
        }
        study.studyLeads(table);
        return study.leadsFound[(heaps - 1) * 4 + what];
    }

    public int laws(int kind, int pays, int what) {
        if (kind < 0 || kind >= table.kinds || pays < 0 || pays > 6) {
            return NONE;
        }
        if (what < 0 || what > 2 || !study.canAsk(table)) {
            return NONE;
        }
        study.studyLaw(table, kind, pays);
        return study.lawsFound[(kind * Study.PAYS + pays) * 3 + what];
    }

    public int unseen(int side) {
        return isSide(side) ? game.play.countUnseen(side) : NONE;
    }

    public int odds(int what) {
        if (what < 0 || what > 2 || !odds.find(game.play, table)) {
            return NONE;
        }
        return odds.found[what];
    }

    public int offer() {
        return table.offerFor(game.play);
    }

    public int bet(int side, int coins) {
        if (!isSide(side) || coins < 1 || coins > game.purse) {
            return NONE;
        }
        if (game.play.won != NONE || game.betsMany >= BETS_MOST) {
            return NONE;
        }
        remember();
        game.layBet(side, coins, table.offerFor(game.play));
        return game.purse;
    }

    public int take(int side) {
        if (!isSide(side) || !odds.find(game.play, table)) {
            return NONE;
        }
        long wins = odds.found[side];
        long others = odds.found[2] - wins;
        return wins * table.offerFor(game.play) > others * 10 ? 1 : 0;
    }

    public int choice(int heaps, int what) {
        if (heaps < 1 || heaps > Laying.CHOICE_MOST || what < NONE || game.play.waiting) {
            return NONE;
        }
        int fewest = laying.fewestHeaps(game.play, table.lay, heaps);
        if (fewest == NONE || what == NONE) {
            return fewest;
        }
        return what < laying.pathMany ? laying.path[what] : NONE;
    }

    public int both(int heaps) {
        if (heaps < 1 || heaps > Laying.BOTH_MOST || game.play.waiting) {
            return NONE;
        }
        return laying.winsAgainstAny(game.play, heaps) ? 1 : 0;
    }

    public int opening(int what) {
        return what < 0 || what > 3 ? NONE : book.fitting(game, what);
    }

    public int comes(int kind) {
        if (kind < 0 || kind >= table.kinds) {
            return NONE;
        }
        return game.tellComes(kind);
    }

    public int orders() throws NoSuchElementException {
        if (game.play.heaps == 0) {
            throw new NoSuchElementException("no heap was taken in this game");
        }
        return game.ordersThatFit();
    }

    public boolean clear() {
        game.comesMany = 0;
        return true;
    }

    public boolean drawn(int seed) {
        if (!Study.isSeed(seed) || table.cards == 0) {
            return false;
        }
        rows.startDraws(seed);
        rows.drawRow(table.pack);
        int left = Rows.leftHalf(rows.many);
        game.dealRows(rows.cards, left, rows.many - left);
        game.startDealt(table);
        gameBegan();
        return true;
    }

    public int games(int seed, int many, int what) {
        if (!Study.isSeed(seed) || many < 1 || many > 50 || what < 0 || what > 3 || table.cards == 0) {
            return NONE;
        }
        study.studyGames(table, seed, many);
        return study.gamesFound[what];
    }

    public int looked(int seed, int many, int what) {
        if (!Study.isSeed(seed) || many < 1 || many > 200 || what < NONE || table.cards == 0) {
            return NONE;
        }
        study.lookForRound(table, seed, many);
        if (study.lookedFound == NONE || what == NONE) {
            return study.lookedFound;
        }
        return what < table.cards ? study.lookedRow[what] : NONE;
    }

    public boolean mark(int mark, boolean back) {
        if (mark < 0 || mark >= MARKS) {
            return false;
        }
        if (back) {
            return goBack(mark);
        }
        if (marks[mark] == null) {
            marks[mark] = new Game();
        }
        marks[mark].copyFrom(game);
        marked[mark] = true;
        return true;
    }

    public int count(int what) {
        Play play = game.play;
        switch (what) {
            case 0: return table.kinds;
            case 1: return table.cards;
            case 2: return play.many[LEFT];
            case 3: return play.many[RIGHT];
            case 4: return play.onHeap;
            case 5: return play.next;
            case 6: return play.owed;
            case 7: return play.owed > 0 ? play.taker : NONE;
            case 8: return play.turned;
            case 9: return play.heaps;
            case 10: return play.won;
            case 11: return game.purse;
            case 12: return game.betsMany;
            case 13: return book.openings;
            case 14: return game.comesMany;
            case 15: return pastMany;
            case 16: return table.limit;
            case 17: return table.lay;
            case 18: return tape.length;
            default: return NONE;
        }
    }

    private static boolean isSide(int side) {
        return side == LEFT || side == RIGHT;
    }

    private boolean goBack(int mark) {
        Game held = marks[mark];
        if (!marked[mark] || held == null) {
            return false;
        }
        game.copyFrom(held);
        gameBegan();
        return true;
    }

    // Keeps the GAME as it is, for UNDO; the oldest of 16 is written over.
    private void remember() {
        if (past[pastNext] == null) {
            past[pastNext] = new Game();
        }
        past[pastNext].copyFrom(game);
        pastNext = (pastNext + 1) % UNDO_MOST;
        if (pastMany < UNDO_MOST) {
            pastMany++;
        }
    }

    private void gameBegan() {
        pastMany = 0;
        gameChanged();
    }

    // ENDS, ODDS and CHOICE are kept till the cards lie otherwise.
    private void gameChanged() {
        endsKnown = false;
        odds.known = false;
        laying.forget();
    }

    /** The TAPE and its TOKENS, one at a time. */
    private static final class Tape {
        static final int MOST = 1000;
        static final int WORD_MOST = 8;
        static final int NUMBER_MOST = 4;

        static final int END = 0;
        static final int WORD = 1;
        static final int NUMBER = 2;
        static final int SIGN = 3;
        static final int BAD = 4;

        // Numbers of words that the language knows; those from FIRST_FACT on may be NAMES, too.
        static final int W_KIND = 0;
        static final int W_PAYS = 1;
        static final int W_PACK = 2;
        static final int W_LAY = 3;
        static final int W_FIRST = 4;
        static final int W_BET = 5;
        static final int W_LIMIT = 6;
        static final int W_UNDER = 7;
        static final int W_HALVES = 11;
        static final int W_LEFT = 12;
        static final int W_RIGHT = 13;
        static final int W_NOBODY = 14;
        static final int W_OPENING = 15;
        static final int W_WON = 16;
        static final int W_NOT = 17;
        static final int W_AND = 18;
        static final int W_OR = 19;
        static final int FIRST_FACT = 20;
        static final int KNOWN = 24;
        static final String WORDS = "kind pays pack lay first bet limit under about high low halves left right nobody opening won not and or ahead more heaps turns ";

        final byte[] signs = new byte[MOST];
        final long[] words = new long[KNOWN];
        int length;
        int place;
        int at;
        int type;
        int known;
        int number;
        int sign;
        long word;

        Tape() {
            int index = 0;
            long letters = 0;
            for (int i = 0; i < WORDS.length() && index < KNOWN; i++) {
                char c = WORDS.charAt(i);
                if (c == ' ') {
                    words[index] = letters;
                    index++;
                    letters = 0;
                } else {
                    letters = letters * 32 + (c - 'a' + 1);
                }
            }
        }

        void addEight(long bytes) {
            for (int shift = 56; shift >= 0; shift -= 8) {
                int c = (int) (bytes >>> shift) & 255;
                if ((c == 10 || c >= 32 && c <= 126) && length < MOST) {
                    signs[length] = (byte) c;
                    length++;
                }
            }
        }

        void begin() {
            place = 0;
            advance();
        }

        void empty() {
            length = 0;
            place = 0;
        }

        void advance() {
            while (place < length && (signs[place] == 10 || signs[place] == ' ')) {
                place++;
            }
            at = place;
            known = NONE;
            int c = at < length ? signs[at] : 0;
            if (at >= length) {
                type = END;
            } else if (c >= 'a' && c <= 'z') {
                readWord();
            } else if (c >= '0' && c <= '9') {
                readNumber();
            } else {
                type = isSign(c) ? SIGN : BAD;
                sign = c;
                place++;
            }
        }

        boolean isNamed() {
            return type == WORD && (known == NONE || known >= FIRST_FACT);
        }

        boolean isSignOf(int c) {
            return type == SIGN && sign == c;
        }

        private void readWord() {
            word = 0;
            while (place < length && signs[place] >= 'a' && signs[place] <= 'z') {
                if (place - at < WORD_MOST) {
                    word = word * 32 + (signs[place] - 'a' + 1);
                }
                place++;
            }
            type = place - at > WORD_MOST ? BAD : WORD;
            for (int i = 0; i < KNOWN && type == WORD; i++) {
                if (words[i] == word) {
                    known = i;
                }
            }
        }

        private void readNumber() {
            number = 0;
            while (place < length && signs[place] >= '0' && signs[place] <= '9') {
                if (place - at < NUMBER_MOST) {
                    number = number * 10 + (signs[place] - '0');
                }
                place++;
            }
            type = place - at > NUMBER_MOST ? BAD : NUMBER;
        }

        private static boolean isSign(int c) {
            switch (c) {
                case '(': case ')': case '<': case '=': case '+': case '-': case '*': case ',': case ';':
                    return true;
                default:
                    return false;
            }
        }
    }

    /** KINDS, the PACK, and the table's laws; the E of bet as a row of steps, each behind what it works on. */
    private static final class Table {
        static final int FACTS = 4;
        // Steps below 0; what is 0 or more is a number. The facts are -1 to -4.
        static final int PLUS = -5;
        static final int MINUS = -6;
        static final int TIMES = -7;
        static final int LESS = -8;
        static final int EQUAL = -9;
        static final int AND = -10;
        static final int OR = -11;
        static final int NOT = -12;
        static final int STEPS = 1000;
        static final int STACK = 64;

        int kinds;
        final long[] names = new long[KINDS];
        final int[] pays = new int[KINDS];
        final int[] pack = new int[KINDS];
        final boolean[] packTold = new boolean[KINDS];
        int cards;
        int lay;
        int first;
        int limit;
        boolean layTold;
        boolean firstTold;
        boolean limitTold;
        boolean betTold;
        int steps;
        final int[] step = new int[STEPS];
        final int[] stack = new int[STACK];

        Table() {
            limit = 1000;
        }

        void reset() {
            kinds = 0;
            cards = 0;
            for (int i = 0; i < KINDS; i++) {
                names[i] = 0;
                pays[i] = 0;
                pack[i] = 0;
                packTold[i] = false;
            }
            lay = UNDER;
            first = LEFT;
            limit = 1000;
            layTold = false;
            firstTold = false;
            limitTold = false;
            betTold = false;
            steps = 0;
        }

        int find(long name) {
            for (int i = 0; i < kinds && i < KINDS; i++) {
                if (names[i] == name) {
                    return i;
                }
            }
            return NONE;
        }

        void addKind(long name, int pay) {
            if (kinds < KINDS) {
                names[kinds] = name;
                pays[kinds] = pay;
                kinds++;
            }
        }

        void addStep(int what) {
            if (steps < STEPS) {
                step[steps] = what;
                steps++;
            }
        }

        int offerFor(Play play) {
            if (!betTold) {
                return 10;
            }
            int value = evaluate(play);
            return value < 0 ? 0 : Math.min(value, 99);
        }

        private int evaluate(Play play) {
            int top = 0;
            for (int i = 0; i < steps && i < STEPS; i++) {
                int what = step[i];
                if (what >= -FACTS) {
                    if (top < STACK) {
                        stack[top] = what >= 0 ? what : fact(play, what);
                        top++;
                    }
                } else if (what == NOT) {
                    if (top > 0 && top <= STACK) {
                        stack[top - 1] = stack[top - 1] == 0 ? 1 : 0;
                    }
                } else if (top > 1 && top <= STACK) {
                    stack[top - 2] = combine(what, stack[top - 2], stack[top - 1]);
                    top--;
                }
            }
            return top > 0 ? stack[0] : 0;
        }

        private static int fact(Play play, int what) {
            switch (what) {
                case -1: return play.many[LEFT] - play.many[RIGHT];
                case -2: return play.payOfRow(LEFT) - play.payOfRow(RIGHT);
                case -3: return play.heaps;
                default: return play.turned;
            }
        }

        private static int combine(int what, int a, int b) {
            switch (what) {
                case PLUS: return a + b;
                case MINUS: return a - b;
                case TIMES: return a * b;
                case LESS: return a < b ? 1 : 0;
                case EQUAL: return a == b ? 1 : 0;
                case AND: return a != 0 && b != 0 ? 1 : 0;
                default: return a != 0 || b != 0 ? 1 : 0;
            }
        }
    }

    /** The BOOK of OPENINGS. */
    private static final class Book {
        static final int MOST = 12;
        static final int CARDS = 6;

        int openings;
        final int[] who = new int[MOST];
        final int[] many = new int[MOST * 2];
        final int[] cards = new int[MOST * 2 * CARDS];

        void reset() {
            openings = 0;
        }

        // The row is laid behind the OPENINGS that are counted; finish counts it.
        void setRow(int side, int[] from, int start, int howMany) {
            if (openings >= MOST || howMany > CARDS || start < 0 || start + howMany > from.length) {
                return;
            }
            int slot = openings * 2 + side;
            many[slot] = howMany;
            for (int i = 0; i < howMany; i++) {
                cards[slot * CARDS + i] = from[start + i];
            }
        }

        void finish(int winner) {
            if (openings < MOST) {
                who[openings] = winner;
                openings++;
            }
        }

        int fitting(Game game, int what) {
            int found = 0;
            for (int i = 0; i < openings && i < MOST; i++) {
                boolean asked = what == 0 || who[i] == what - 1;
                if (asked && fits(game, i * 2 + LEFT, LEFT) && fits(game, i * 2 + RIGHT, RIGHT)) {
                    found++;
                }
            }
            return found;
        }

        private boolean fits(Game game, int slot, int side) {
            if (many[slot] > game.dealtMany[side]) {
                return false;
            }
            for (int i = 0; i < many[slot] && i < CARDS; i++) {
                if (cards[slot * CARDS + i] != game.dealt[side * ROW_CARDS + i]) {
                    return false;
                }
            }
            return true;
        }
    }

    /** Reads the TAPE; a method that finds a FAULT notes it and answers false. */
    private static final class Reader {
        static final int WITHIN = 5;

        final Tape tape;
        final int[] cards = new int[2 * ROW_CARDS];
        final int[] many = new int[2];
        private Table table;
        private Book book;
        private int fault;
        private boolean leftTold;
        private boolean rightTold;

        Reader(Tape from, Table byTable, Book byBook) {
            tape = from;
            table = byTable;
            book = byBook;
        }

        int readTable(Table into) {
            table = into;
            into.reset();
            begin();
            for (int i = 0; i < Tape.MOST && tape.type != Tape.END; i++) {
                if (!readTableLine()) {
                    break;
                }
            }
            return finish();
        }

        int readDeal(Table by) {
            table = by;
            many[LEFT] = 0;
            many[RIGHT] = 0;
            leftTold = false;
            rightTold = false;
            begin();
            for (int i = 0; i < Tape.MOST && tape.type != Tape.END; i++) {
                if (!readDealLine()) {
                    break;
                }
            }
            closeUp();
            return finish();
        }

        int readBook(Table by, Book into) {
            table = by;
            book = into;
            into.reset();
            begin();
            for (int i = 0; i < Tape.MOST && tape.type != Tape.END; i++) {
                if (!readOpening()) {
                    break;
                }
            }
            return finish();
        }

        private void begin() {
            fault = 0;
            tape.begin();
        }

        private int finish() {
            tape.empty();
            return fault;
        }

        // Right's cards were read to their own place; a deal is told as left's cards with right's right behind.
        private void closeUp() {
            for (int i = 0; i < many[RIGHT] && i < ROW_CARDS; i++) {
                int to = many[LEFT] + i;
                if (to >= 0 && to < cards.length) {
                    cards[to] = cards[ROW_CARDS + i];
                }
            }
        }

        private boolean wrong(int kind) {
            fault = kind + 16 * tape.at;
            return false;
        }

        private boolean takeWord(int known) {
            if (tape.known != known) {
                return wrong(1);
            }
            tape.advance();
            return true;
        }

        private boolean takeSign(int sign) {
            if (!tape.isSignOf(sign)) {
                return wrong(1);
            }
            tape.advance();
            return true;
        }

        private boolean isNumberFrom(int least, int most) {
            if (tape.type != Tape.NUMBER) {
                return wrong(1);
            }
            return tape.number >= least && tape.number <= most || wrong(4);
        }

        private boolean readTableLine() {
            switch (tape.known) {
                case Tape.W_KIND: return readKind();
                case Tape.W_PACK: return readPack();
                case Tape.W_LAY: return readLay();
                case Tape.W_FIRST: return readFirst();
                case Tape.W_BET: return readBet();
                case Tape.W_LIMIT: return readLimit();
                default: return wrong(1);
            }
        }

        private boolean readKind() {
            if (table.kinds >= KINDS) {
                return wrong(5);
            }
            tape.advance();
            if (!tape.isNamed()) {
                return wrong(1);
            }
            if (table.find(tape.word) != NONE) {
                return wrong(3);
            }
            long name = tape.word;
            tape.advance();
            if (!takeWord(Tape.W_PAYS) || !isNumberFrom(0, 6)) {
                return false;
            }
            table.addKind(name, tape.number);
            tape.advance();
            return takeSign(';');
        }

        private boolean readPack() {
            tape.advance();
            if (!tape.isNamed()) {
                return wrong(1);
            }
            int kind = table.find(tape.word);
            if (kind == NONE) {
                return wrong(2);
            }
            if (table.packTold[kind]) {
                return wrong(3);
            }
            tape.advance();
            if (!isNumberFrom(0, Math.min(12, ROW_CARDS - table.cards))) {
                return false;
            }
            table.packTold[kind] = true;
            table.pack[kind] = tape.number;
            table.cards += tape.number;
            tape.advance();
            return takeSign(';');
        }

        private boolean readLay() {
            if (table.layTold) {
                return wrong(3);
            }
            table.layTold = true;
            tape.advance();
            if (tape.known < Tape.W_UNDER || tape.known > Tape.W_HALVES) {
                return wrong(1);
            }
            table.lay = tape.known - Tape.W_UNDER;
            tape.advance();
            return takeSign(';');
        }

        private boolean readFirst() {
            if (table.firstTold) {
                return wrong(3);
            }
            table.firstTold = true;
            tape.advance();
            if (tape.known != Tape.W_LEFT && tape.known != Tape.W_RIGHT) {
                return wrong(1);
            }
            table.first = tape.known - Tape.W_LEFT;
            tape.advance();
            return takeSign(';');
        }

        private boolean readLimit() {
            if (table.limitTold) {
                return wrong(3);
            }
            table.limitTold = true;
            tape.advance();
            if (!isNumberFrom(10, 3000)) {
                return false;
            }
            table.limit = tape.number;
            tape.advance();
            return takeSign(';');
        }

        private boolean readBet() {
            if (table.betTold) {
                return wrong(3);
            }
            table.betTold = true;
            tape.advance();
            return readE(0) && takeSign(';');
        }

        private boolean readE(int within) {
            if (!readTest(within)) {
                return false;
            }
            for (int i = 0; i < Tape.MOST; i++) {
                int what = tape.known == Tape.W_AND ? Table.AND : Table.OR;
                if (tape.known != Tape.W_AND && tape.known != Tape.W_OR) {
                    break;
                }
                tape.advance();
                if (!readTest(within)) {
                    return false;
                }
                table.addStep(what);
            }
            return true;
        }

        private boolean readTest(int within) {
            if (!readSum(within)) {
                return false;
            }
            if (!tape.isSignOf('<') && !tape.isSignOf('=')) {
                return true;
            }
            int what = tape.isSignOf('<') ? Table.LESS : Table.EQUAL;
            tape.advance();
            if (!readSum(within)) {
                return false;
            }
            table.addStep(what);
            return true;
        }

        private boolean readSum(int within) {
            if (!readProduct(within)) {
                return false;
            }
            for (int i = 0; i < Tape.MOST; i++) {
                if (!tape.isSignOf('+') && !tape.isSignOf('-')) {
                    break;
                }
                int what = tape.isSignOf('+') ? Table.PLUS : Table.MINUS;
                tape.advance();
                if (!readProduct(within)) {
                    return false;
                }
                table.addStep(what);
            }
            return true;
        }

        private boolean readProduct(int within) {
            if (!readPart(within)) {
                return false;
            }
            for (int i = 0; i < Tape.MOST && tape.isSignOf('*'); i++) {
                tape.advance();
                if (!readPart(within)) {
                    return false;
                }
                table.addStep(Table.TIMES);
            }
            return true;
        }

        private boolean readPart(int within) {
            boolean number = tape.type == Tape.NUMBER;
            boolean fact = tape.known >= Tape.FIRST_FACT;
            boolean not = tape.known == Tape.W_NOT;
            if (!number && !fact && !not && !tape.isSignOf('(')) {
                return wrong(1);
            }
            if (within >= WITHIN) {
                return wrong(5);
            }
            if (number || fact) {
                table.addStep(number ? tape.number : Tape.FIRST_FACT - 1 - tape.known);
                tape.advance();
                return true;
            }
            tape.advance();
            if (!not) {
                return readE(within + 1) && takeSign(')');
            }
            if (!readPart(within + 1)) {
                return false;
            }
            table.addStep(Table.NOT);
            return true;
        }

        private boolean readDealLine() {
            boolean left = tape.known == Tape.W_LEFT;
            if (!left && tape.known != Tape.W_RIGHT) {
                return wrong(1);
            }
            if (left ? leftTold : rightTold) {
                return wrong(3);
            }
            leftTold = leftTold || left;
            rightTold = rightTold || !left;
            tape.advance();
            return readRow(left ? LEFT : RIGHT, ROW_CARDS) && takeSign(';');
        }

        private boolean readOpening() {
            if (tape.known != Tape.W_OPENING) {
                return wrong(1);
            }
            if (book.openings >= Book.MOST) {
                return wrong(5);
            }
            tape.advance();
            if (!readRow(LEFT, Book.CARDS) || !takeSign(',')) {
                return false;
            }
            if (!readRow(RIGHT, Book.CARDS) || !takeWord(Tape.W_WON)) {
                return false;
            }
            if (tape.known < Tape.W_LEFT || tape.known > Tape.W_NOBODY) {
                return wrong(1);
            }
            book.setRow(LEFT, cards, 0, many[LEFT]);
            book.setRow(RIGHT, cards, ROW_CARDS, many[RIGHT]);
            book.finish(tape.known - Tape.W_LEFT);
            tape.advance();
            return takeSign(';');
        }

        // A ROW ends before the first token that is neither a NUMBER nor a NAME.
        private boolean readRow(int side, int most) {
            many[side] = 0;
            for (int i = 0; i < Tape.MOST; i++) {
                int times = 1;
                if (tape.type == Tape.NUMBER) {
                    if (!isNumberFrom(1, 12)) {
                        return false;
                    }
                    times = tape.number;
                    tape.advance();
                    if (!tape.isNamed()) {
                        return wrong(1);
                    }
                }
                if (!tape.isNamed()) {
                    break;
                }
                if (!addCards(side, times, most)) {
                    return false;
                }
                tape.advance();
            }
            return true;
        }

        private boolean addCards(int side, int times, int most) {
            int kind = table.find(tape.word);
            if (kind == NONE) {
                return wrong(2);
            }
            if (many[side] + times > most) {
                return wrong(5);
            }
            for (int i = 0; i < times; i++) {
                cards[side * ROW_CARDS + many[side]] = kind;
                many[side]++;
            }
            return true;
        }
    }

    /** Two rows and a HEAP: what a TURN does. Each row is a ring of 64 places, left's first. */
    private static final class Play {
        static final int RING = 64;
        // Lies on a card of the rows that was not turned yet; the kind is what is below it.
        static final int HIDDEN = 8;
        static final int KIND_BITS = 7;

        final int[] cards = new int[2 * RING];
        final int[] head = new int[2];
        final int[] many = new int[2];
        final int[] heap = new int[RING];
        final int[] laid = new int[RING];
        final int[] pays = new int[KINDS];
        int onHeap;
        int next;
        int owed;
        int taker;
        int turned;
        int heaps;
        int rounds;
        int won = NONE;
        boolean waiting;

        void start(int first, int[] paysOfKinds) {
            for (int i = 0; i < KINDS && i < paysOfKinds.length; i++) {
                pays[i] = paysOfKinds[i];
            }
            head[LEFT] = 0;
            head[RIGHT] = 0;
            many[LEFT] = 0;
            many[RIGHT] = 0;
            onHeap = 0;
            next = first;
            owed = 0;
            taker = LEFT;
            turned = 0;
            heaps = 0;
            rounds = 0;
            won = NONE;
            waiting = false;
        }

        void give(int side, int[] from, int begin, int howMany) {
            if (begin < 0 || howMany > ROW_CARDS || begin + howMany > from.length) {
                return;
            }
            for (int i = 0; i < howMany; i++) {
                cards[placeOf(side, i)] = from[begin + i] | HIDDEN;
            }
            many[side] = howMany;
        }

        void copyFrom(Play from) {
            copyRow(from, LEFT);
            copyRow(from, RIGHT);
            System.arraycopy(from.heap, 0, heap, 0, RING);
            System.arraycopy(from.pays, 0, pays, 0, KINDS);
            onHeap = from.onHeap;
            next = from.next;
            owed = from.owed;
            taker = from.taker;
            turned = from.turned;
            heaps = from.heaps;
            rounds = from.rounds;
            won = from.won;
            waiting = from.waiting;
        }

        private void copyRow(Play from, int side) {
            head[side] = 0;
            many[side] = from.many[side];
            for (int i = 0; i < many[side]; i++) {
                cards[placeOf(side, i)] = from.cards[from.placeOf(side, i)];
            }
        }

        int placeOf(int side, int i) {
            return side * RING + ((head[side] + i) & (RING - 1));
        }

        int kindAt(int side, int i) {
            return cards[placeOf(side, i)] & KIND_BITS;
        }

        boolean isHidden(int side, int i) {
            return (cards[placeOf(side, i)] & HIDDEN) != 0;
        }

        int countInRow(int side, int kind) {
            int found = 0;
            for (int i = 0; i < many[side]; i++) {
                if (kindAt(side, i) == kind) {
                    found++;
                }
            }
            return found;
        }

        int countOnHeap(int kind) {
            int found = 0;
            for (int i = 0; i < onHeap && i < RING; i++) {
                if (heap[i] == kind) {
                    found++;
                }
            }
            return found;
        }

        int countUnseen(int side) {
            int found = 0;
            for (int i = 0; i < many[side]; i++) {
                if (isHidden(side, i)) {
                    found++;
                }
            }
            return found;
        }

        int countMakersOnHeap() {
            int found = 0;
            for (int i = 0; i < onHeap && i < RING; i++) {
                if (payOf(heap[i]) > 0) {
                    found++;
                }
            }
            return found;
        }

        int payOf(int kind) {
            return pays[kind & KIND_BITS];
        }

        int payOfRow(int side) {
            int sum = 0;
            for (int i = 0; i < many[side]; i++) {
                sum += payOf(kindAt(side, i));
            }
            return sum;
        }

        // The card of who is next comes on the HEAP, with nothing else done.
        int putOnHeap() {
            int kind = cards[next * RING + head[next]] & KIND_BITS;
            head[next] = (head[next] + 1) & (RING - 1);
            many[next]--;
            if (onHeap < RING) {
                heap[onHeap] = kind;
                onHeap++;
            }
            turned++;
            return kind;
        }

        // Who is next and has none has lost; that is no TURN.
        boolean nextHasLost() {
            if (many[next] > 0) {
                return false;
            }
            won = 1 - next;
            return true;
        }

        // If it answers DUE, layHeap has to follow.
        int turnUp() {
            if (nextHasLost()) {
                return LOST;
            }
            int pay = payOf(putOnHeap());
            if (pay > 0) {
                if (owed > 0) {
                    rounds++;
                }
                owed = pay;
                taker = next;
                next = 1 - next;
                return TURNED;
            }
            if (owed > 0) {
                owed--;
                return owed == 0 ? DUE : TURNED;
            }
            next = 1 - next;
            return TURNED;
        }

        // Till a HEAP is due or who is next has none: every TURN uses up a card, so the cards bound it.
        int turnToHeap() {
            int how = TURNED;
            for (int i = 0; i <= 2 * RING && how == TURNED; i++) {
                how = turnUp();
            }
            return how;
        }

        void layHeap(int order) {
            arrange(heap, onHeap, waiting ? ABOUT : order);
            for (int i = 0; i < onHeap && i < RING; i++) {
                cards[placeOf(taker, many[taker])] = laid[i];
                many[taker]++;
            }
            waiting = false;
            onHeap = 0;
            owed = 0;
            rounds = 0;
            heaps++;
            next = taker;
        }

        void topBeneath() {
            int card = cards[placeOf(next, 0)];
            head[next] = (head[next] + 1) & (RING - 1);
            cards[placeOf(next, many[next] - 1)] = card;
        }

        // Fills laid, the top card first.
        void arrange(int[] from, int howMany, int order) {
            int n = Math.max(0, Math.min(howMany, Math.min(from.length, RING)));
            int half = (n + 1) / 2;
            int put = 0;
            switch (order) {
                case ABOUT:
                    for (int i = 0; i < n; i++) {
                        laid[i] = from[n - 1 - i];
                    }
                    break;
                case HIGH:
                    for (int pay = 6; pay >= 0; pay--) {
                        put = pick(from, n, pay, pay, put);
                    }
                    break;
                case LOW:
                    put = pick(from, n, 0, 0, put);
                    pick(from, n, 1, 6, put);
                    break;
                case HALVES:
                    System.arraycopy(from, half, laid, 0, n - half);
                    System.arraycopy(from, 0, laid, n - half, half);
                    break;
                default:
                    System.arraycopy(from, 0, laid, 0, n);
                    break;
            }
        }

        private int pick(int[] from, int n, int least, int most, int start) {
            int put = start;
            for (int i = 0; i < n; i++) {
                int pay = payOf(from[i]);
                if (pay >= least && pay <= most && put < RING) {
                    laid[put] = from[i];
                    put++;
                }
            }
            return put;
        }
    }

    /** A GAME by hand: the rows, what was dealt, HEAPS kept, BETS and what COMES. */
    private static final class Game {
        final Play play = new Play();
        final int[] dealt = new int[2 * ROW_CARDS];
        final int[] dealtMany = new int[2];
        boolean wasDealt;
        // A ring; each HEAP in one number: who took it, then 8 bits each for cards, makers and rounds.
        final int[] kept = new int[KEPT_MOST];
        int keptNext;
        int keptMany;
        final int[] last = new int[Play.RING];
        int lastMany;
        final int[] told = new int[COMES_MOST];
        int comesMany;
        final int[] betSide = new int[BETS_MOST];
        final int[] betCoins = new int[BETS_MOST];
        final int[] betOffer = new int[BETS_MOST];
        int betsMany;
        int purse;

        void startEmpty(Table table) {
            wasDealt = false;
            dealtMany[LEFT] = 0;
            dealtMany[RIGHT] = 0;
            startDealt(table);
        }

        // The cards of left are told first, those of right right behind them.
        void dealRows(int[] from, int left, int right) {
            int most = Math.min(from.length, 2 * ROW_CARDS);
            if (left < 0 || right < 0 || left > ROW_CARDS || right > ROW_CARDS || left + right > most) {
                return;
            }
            for (int i = 0; i < left; i++) {
                dealt[i] = from[i];
            }
            for (int i = 0; i < right; i++) {
                dealt[ROW_CARDS + i] = from[left + i];
            }
            dealtMany[LEFT] = left;
            dealtMany[RIGHT] = right;
            wasDealt = true;
        }

        void startDealt(Table table) {
            play.start(table.first, table.pays);
            play.give(LEFT, dealt, 0, dealtMany[LEFT]);
            play.give(RIGHT, dealt, ROW_CARDS, dealtMany[RIGHT]);
            keptNext = 0;
            keptMany = 0;
            lastMany = 0;
            comesMany = 0;
            betsMany = 0;
            purse = 100;
        }

        void copyFrom(Game from) {
            play.copyFrom(from.play);
            System.arraycopy(from.dealt, 0, dealt, 0, 2 * ROW_CARDS);
            dealtMany[LEFT] = from.dealtMany[LEFT];
            dealtMany[RIGHT] = from.dealtMany[RIGHT];
            wasDealt = from.wasDealt;
            System.arraycopy(from.kept, 0, kept, 0, KEPT_MOST);
            keptNext = from.keptNext;
            keptMany = from.keptMany;
            System.arraycopy(from.last, 0, last, 0, Play.RING);
            lastMany = from.lastMany;
            System.arraycopy(from.told, 0, told, 0, COMES_MOST);
            comesMany = from.comesMany;
            System.arraycopy(from.betSide, 0, betSide, 0, BETS_MOST);
            System.arraycopy(from.betCoins, 0, betCoins, 0, BETS_MOST);
            System.arraycopy(from.betOffer, 0, betOffer, 0, BETS_MOST);
            betsMany = from.betsMany;
            purse = from.purse;
        }

        int keptHeap(int i, int what) {
            if (i < 0 || i >= keptMany) {
                return NONE;
            }
            int told = kept[(keptNext + 2 * KEPT_MOST - 1 - i) % KEPT_MOST];
            switch (what) {
                case 0: return told & 1;
                case 1: return told >> 1 & 255;
                case 2: return told >> 9 & 255;
                case 3: return told >> 17 & 255;
                default: return NONE;
            }
        }

        // False if nobody turned: who is next has none.
        boolean turnByHand(int order) {
            if (play.won != NONE) {
                return false;
            }
            int how = play.turnUp();
            if (how == LOST) {
                payBets();
                return false;
            }
            if (how == DUE) {
                takeHeap(order);
            }
            return true;
        }

        boolean canSlip(int slip) {
            if (play.won != NONE) {
                return false;
            }
            switch (slip) {
                case 0: case 2: return play.many[play.next] >= 2;
                case 1: return !play.waiting;
                default: return false;
            }
        }

        void doSlip(int slip, int order) {
            if (slip == 0) {
                play.putOnHeap();
                turnByHand(order);
            } else if (slip == 1) {
                play.waiting = true;
            } else {
                play.topBeneath();
            }
        }

        void layBet(int side, int coins, int offer) {
            if (betsMany < BETS_MOST) {
                betSide[betsMany] = side;
                betCoins[betsMany] = coins;
                betOffer[betsMany] = offer;
                betsMany++;
                purse -= coins;
            }
        }

        int tellComes(int kind) {
            if (comesMany >= COMES_MOST || comesMany >= lastMany) {
                return NONE;
            }
            told[comesMany] = kind;
            comesMany++;
            return comesMany;
        }

        int ordersThatFit() {
            int bits = 0;
            for (int order = 0; order < ORDERS; order++) {
                play.arrange(last, lastMany, order);
                boolean fits = true;
                for (int i = 0; i < comesMany && i < COMES_MOST; i++) {
                    fits = fits && play.laid[i] == told[i];
                }
                bits |= fits ? 1 << order : 0;
            }
            return bits;
        }

        private void takeHeap(int order) {
            lastMany = play.onHeap;
            System.arraycopy(play.heap, 0, last, 0, Play.RING);
            comesMany = 0;
            int makers = play.countMakersOnHeap();
            kept[keptNext] = play.taker | play.onHeap << 1 | makers << 9 | play.rounds << 17;
            keptNext = (keptNext + 1) % KEPT_MOST;
            keptMany = Math.min(keptMany + 1, KEPT_MOST);
            play.layHeap(order);
        }

        private void payBets() {
            for (int i = 0; i < betsMany && i < BETS_MOST; i++) {
                if (betSide[i] == play.won) {
                    purse += betCoins[i] + betCoins[i] * betOffer[i] / 10;
                }
            }
        }
    }

    /** Plays on to how it ENDS; the states with an empty HEAP are kept, to see which comes again. */
    private static final class Ending {
        // A HEAP takes two TURNS at least, but for the first one: 1,501 states in 3,000 TURNS.
        static final int STATES = 1536;
        static final int SLOTS = 4096;
        static final int INDEX_BITS = 11;
        static final int KEY = 3;

        final Play play = new Play();
        int result;
        int turns;
        int heaps;
        int round;
        private int states;
        private long generation;
        private final long[] key = new long[KEY + 1];
        private long[] stateKeys;
        private int[] stateTurns;
        private int[] stateHeaps;
        private long[] slots;

        // From the play as it stands, which is used up by it.
        void go(int order, int limit) {
            forgetStates();
            int heapsBefore = play.heaps;
            if (play.onHeap == 0 && !play.waiting) {
                noteState(0, 0);
            }
            // Who has none behind just `limit` TURNS has lost within them.
            for (int t = 0; t <= limit; t++) {
                if (play.nextHasLost()) {
                    answer(play.won, t, play.heaps - heapsBefore, 0);
                    return;
                }
                if (t < limit && play.turnUp() == DUE) {
                    play.layHeap(order);
                    int before = noteState(t + 1, play.heaps - heapsBefore);
                    if (before != NONE) {
                        answer(GOES_ROUND, stateTurns[before], stateHeaps[before], t + 1 - stateTurns[before]);
                        return;
                    }
                }
            }
            answer(NO_END, limit, play.heaps - heapsBefore, 0);
        }

        private void answer(int how, int turnsTill, int heapsTill, int turnsOfRound) {
            result = how;
            turns = turnsTill;
            heaps = heapsTill;
            round = turnsOfRound;
        }

        private void forgetStates() {
            if (slots == null) {
                stateKeys = new long[STATES * KEY];
                stateTurns = new int[STATES];
                stateHeaps = new int[STATES];
                slots = new long[SLOTS];
            }
            states = 0;
            // Slots of an older generation count as empty, so that they need not be wiped.
            generation++;
        }

        // The number of the state that is alike, or NONE: then it is a new one.
        private int noteState(int t, int heapsTaken) {
            makeKey();
            int slot = hashOfKey();
            for (int i = 0; i < SLOTS; i++) {
                long held = slots[slot];
                int state = (int) held & ((1 << INDEX_BITS) - 1);
                if (held >> INDEX_BITS != generation) {
                    addState(slot, t, heapsTaken);
                    return NONE;
                }
                if (state < states && isKey(state)) {
                    return state;
                }
                slot = (slot + 1) & (SLOTS - 1);
            }
            return NONE;
        }

        private void addState(int slot, int t, int heapsTaken) {
            if (states >= STATES) {
                return;
            }
            for (int i = 0; i < KEY; i++) {
                stateKeys[states * KEY + i] = key[i];
            }
            stateTurns[states] = t;
            stateHeaps[states] = heapsTaken;
            slots[slot] = generation << INDEX_BITS | states;
            states++;
        }

        // 48 cards at most, 16 in each number; above the first 16: how many are left's, and who is next.
        private void makeKey() {
            int left = play.many[LEFT];
            int right = play.many[RIGHT];
            key[0] = (long) (left * 2 + play.next) << 48;
            key[1] = 0;
            key[2] = 0;
            for (int i = 0; i < left; i++) {
                addToKey(i, play.cards[play.placeOf(LEFT, i)]);
            }
            for (int i = 0; i < right; i++) {
                addToKey(left + i, play.cards[play.placeOf(RIGHT, i)]);
            }
        }

        private void addToKey(int at, int card) {
            key[at >> 4 & KEY] |= (long) (card & Play.KIND_BITS) << (at & 15) * 3;
        }

        private int hashOfKey() {
            long mixed = key[0] * 0x9E3779B97F4A7C15L ^ key[1] * 0xC2B2AE3D27D4EB4FL ^ key[2] * 0x165667B19E3779F9L;
            return (int) (mixed >>> 40 ^ mixed >>> 20) & (SLOTS - 1);
        }

        private boolean isKey(int state) {
            int at = state * KEY;
            return stateKeys[at] == key[0] && stateKeys[at + 1] == key[1] && stateKeys[at + 2] == key[2];
        }
    }

    /** Rows of a pack: all unlike ones in order, one by its number, or drawn. */
    private static final class Rows {
        static final int CARDS_MOST = 10;
        static final int ROWS_MOST = 20000;

        final int[] cards = new int[ROW_CARDS];
        final int[] left = new int[KINDS];
        int many;
        private long g;

        static int leftHalf(int cards) {
            return (cards + 1) / 2;
        }

        // NONE: more than 10 cards, or more than 20,000 rows.
        int howMany(int[] pack) {
            int n = 0;
            int found = 1;
            for (int kind = 0; kind < KINDS && kind < pack.length; kind++) {
                for (int i = 1; i <= pack[kind]; i++) {
                    n++;
                    if (n > CARDS_MOST) {
                        return NONE;
                    }
                    // Whole at each step: it is a product of ways to choose.
                    found = found * n / i;
                }
            }
            return found > ROWS_MOST ? NONE : found;
        }

        void toFirst(int[] pack) {
            many = 0;
            for (int kind = 0; kind < KINDS && kind < pack.length; kind++) {
                for (int i = 0; i < pack[kind] && many < ROW_CARDS; i++) {
                    cards[many] = kind;
                    many++;
                }
            }
        }

        // False if it is the last one.
        boolean toNext() {
            int from = many - 2;
            while (from >= 0 && cards[from] >= cards[from + 1]) {
                from--;
            }
            if (from < 0) {
                return false;
            }
            int with = many - 1;
            while (with > from + 1 && cards[with] <= cards[from]) {
                with--;
            }
            swap(from, with);
            for (int a = from + 1, b = many - 1; a < b; a++, b--) {
                swap(a, b);
            }
            return true;
        }

        void toNumber(int[] pack, int number) {
            many = 0;
            int rest = 0;
            for (int kind = 0; kind < KINDS && kind < pack.length; kind++) {
                left[kind] = pack[kind];
                rest += pack[kind];
            }
            int ways = howMany(pack);
            int before = number;
            for (; rest > 0 && many < ROW_CARDS; rest--) {
                int kind = 0;
                int here = ways * left[0] / rest;
                while (kind < KINDS - 1 && before >= here) {
                    before -= here;
                    kind++;
                    here = ways * left[kind] / rest;
                }
                ways = here;
                left[kind]--;
                cards[many] = kind;
                many++;
            }
        }

        void startDraws(int seed) {
            g = seed;
        }

        void drawRow(int[] pack) {
            toFirst(pack);
            for (int i = many - 1; i > 0; i--) {
                swap(i, drawBelow(i + 1));
            }
        }

        private int drawBelow(int m) {
            g = (g * 1103515245L + 12345L) % 2147483648L;
            return m > 0 ? (int) (g / 65536L % m) : 0;
        }

        private void swap(int a, int b) {
            if (a >= 0 && b >= 0 && a < ROW_CARDS && b < ROW_CARDS) {
                int card = cards[a];
                cards[a] = cards[b];
                cards[b] = card;
            }
        }
    }

    /** What many games come to: ALL rows of the PACK, and games drawn. Kept till the TABLE is another one. */
    private static final class Study {
        static final int PAYS = 7;

        final int[] allFound = new int[7];
        final int[] worthFound = new int[KINDS * 2];
        final int[] beginnerFound = new int[3];
        final int[] leadsFound = new int[LEAD_HEAPS * 4];
        final int[] lawsFound = new int[KINDS * PAYS * 3];
        final int[] gamesFound = new int[4];
        final int[] lookedRow = new int[ROW_CARDS];
        int lookedFound;
        private final Rows rows;
        private final Ending ending;
        private final boolean[] lawKnown = new boolean[KINDS * PAYS];
        private final int[] pays = new int[KINDS];
        private final int[] leftHasMore = new int[KINDS];
        private boolean allKnown;
        private boolean beginnerKnown;
        private boolean leadsKnown;
        private int gamesKey = NONE;
        private int lookedKey = NONE;

        Study(Rows byRows, Ending byEnding) {
            rows = byRows;
            ending = byEnding;
        }

        static boolean isSeed(int seed) {
            return seed >= 0 && seed <= 9999;
        }

        void forget() {
            allKnown = false;
            beginnerKnown = false;
            leadsKnown = false;
            gamesKey = NONE;
            lookedKey = NONE;
            for (int i = 0; i < lawKnown.length; i++) {
                lawKnown[i] = false;
            }
        }

        boolean canAsk(Table table) {
            return table.cards >= 1 && rows.howMany(table.pack) != NONE;
        }

        void studyAll(Table table) {
            if (allKnown) {
                return;
            }
            allKnown = true;
            wipe(allFound);
            wipe(worthFound);
            allFound[6] = NONE;
            rows.toFirst(table.pack);
            for (int number = 0; number < Rows.ROWS_MOST; number++) {
                playRow(table, table.first, table.pays);
                tellAll(number);
                tellWorth();
                if (!rows.toNext()) {
                    break;
                }
            }
        }

        private void tellAll(int number) {
            allFound[0]++;
            allFound[1 + ending.result]++;
            boolean over = ending.result < GOES_ROUND;
            if (over && (allFound[6] == NONE || ending.turns > allFound[5])) {
                allFound[5] = ending.turns;
                allFound[6] = number;
            }
        }

        private void tellWorth() {
            int half = Rows.leftHalf(rows.many);
            wipe(leftHasMore);
            for (int i = 0; i < rows.many; i++) {
                leftHasMore[rows.cards[i]] += i < half ? 1 : -1;
            }
            for (int kind = 0; kind < KINDS; kind++) {
                if (leftHasMore[kind] > 0) {
                    worthFound[kind * 2] += ending.result == LEFT ? 1 : 0;
                    worthFound[kind * 2 + 1]++;
                }
            }
        }

        void studyBeginner(Table table) {
            if (beginnerKnown) {
                return;
            }
            beginnerKnown = true;
            wipe(beginnerFound);
            rows.toFirst(table.pack);
            for (int number = 0; number < Rows.ROWS_MOST; number++) {
                for (int first = LEFT; first <= RIGHT; first++) {
                    playRow(table, first, table.pays);
                    int who = ending.result >= GOES_ROUND ? 2 : ending.result == first ? 0 : 1;
                    beginnerFound[who]++;
                }
                if (!rows.toNext()) {
                    break;
                }
            }
        }

        void studyLeads(Table table) {
            if (leadsKnown) {
                return;
            }
            leadsKnown = true;
            wipe(leadsFound);
            rows.toFirst(table.pack);
            for (int number = 0; number < Rows.ROWS_MOST; number++) {
                playRow(table, table.first, table.pays);
                tellLeads(table, ending.result);
                if (!rows.toNext()) {
                    break;
                }
            }
        }

        // The same row once more, past a round too: a game that goes round takes HEAPS all the same.
        private void tellLeads(Table table, int result) {
            Play play = ending.play;
            layOut(table.first, table.pays);
            for (int t = 0; t < table.limit && play.heaps < LEAD_HEAPS; t++) {
                int how = play.turnUp();
                if (how == LOST) {
                    return;
                }
                if (how == DUE) {
                    play.layHeap(table.lay);
                    int at = (play.heaps - 1) * 4;
                    tellLead(at, play.many[LEFT] - play.many[RIGHT], result);
                    tellLead(at + 2, play.payOfRow(LEFT) - play.payOfRow(RIGHT), result);
                }
            }
        }

        private void tellLead(int at, int lead, int result) {
            if (lead != 0 && at >= 0 && at + 1 < leadsFound.length) {
                leadsFound[at] += result == (lead > 0 ? LEFT : RIGHT) ? 1 : 0;
                leadsFound[at + 1]++;
            }
        }

        void studyLaw(Table table, int kind, int pay) {
            int law = kind * PAYS + pay;
            if (law < 0 || law >= lawKnown.length || lawKnown[law]) {
                return;
            }
            lawKnown[law] = true;
            for (int i = 0; i < KINDS; i++) {
                pays[i] = i == kind ? pay : table.pays[i];
            }
            int sum = 0;
            int over = 0;
            int round = 0;
            rows.toFirst(table.pack);
            for (int number = 0; number < Rows.ROWS_MOST; number++) {
                playRow(table, table.first, pays);
                if (ending.result < GOES_ROUND) {
                    sum += ending.turns;
                    over++;
                }
                round += ending.result == GOES_ROUND ? 1 : 0;
                if (!rows.toNext()) {
                    break;
                }
            }
            int common = commonPart(sum, over);
            lawsFound[law * 3] = common > 0 ? sum / common : 0;
            lawsFound[law * 3 + 1] = common > 0 ? over / common : 1;
            lawsFound[law * 3 + 2] = round;
        }

        private static int commonPart(int a, int b) {
            int x = a;
            int y = b;
            for (int i = 0; i < 64 && y != 0; i++) {
                int rest = x % y;
                x = y;
                y = rest;
            }
            return x;
        }

        void studyGames(Table table, int seed, int many) {
            int asked = seed * 64 + many;
            if (gamesKey == asked) {
                return;
            }
            gamesKey = asked;
            wipe(gamesFound);
            rows.startDraws(seed);
            for (int i = 0; i < many; i++) {
                rows.drawRow(table.pack);
                playRow(table, table.first, table.pays);
                if (ending.result <= GOES_ROUND) {
                    gamesFound[ending.result]++;
                }
                if (ending.result < GOES_ROUND) {
                    gamesFound[3] = Math.max(gamesFound[3], ending.turns);
                }
            }
        }

        void lookForRound(Table table, int seed, int many) {
            int asked = seed * 256 + many;
            if (lookedKey == asked) {
                return;
            }
            lookedKey = asked;
            lookedFound = NONE;
            rows.startDraws(seed);
            for (int i = 0; i < many && lookedFound == NONE; i++) {
                rows.drawRow(table.pack);
                playRow(table, table.first, table.pays);
                if (ending.result == GOES_ROUND) {
                    lookedFound = i;
                    System.arraycopy(rows.cards, 0, lookedRow, 0, ROW_CARDS);
                }
            }
        }

        private void playRow(Table table, int first, int[] byPays) {
            layOut(first, byPays);
            ending.go(table.lay, table.limit);
        }

        private void layOut(int first, int[] byPays) {
            int half = Rows.leftHalf(rows.many);
            ending.play.start(first, byPays);
            ending.play.give(LEFT, rows.cards, 0, half);
            ending.play.give(RIGHT, rows.cards, half, rows.many - half);
        }

        private static void wipe(int[] found) {
            for (int i = 0; i < found.length; i++) {
                found[i] = 0;
            }
        }
    }

    /** ODDS by all unlike rows of the cards that are UNSEEN, on their places. */
    private static final class Odds {
        final int[] found = new int[3];
        boolean known;
        private boolean tooMany;
        private final Rows rows;
        private final Ending ending;
        private final int[] kinds = new int[KINDS];
        // Of each place the side, and how deep it lies.
        private final int[] sides = new int[Rows.CARDS_MOST];
        private final int[] depths = new int[Rows.CARDS_MOST];
        private int places;

        Odds(Rows byRows, Ending byEnding) {
            rows = byRows;
            ending = byEnding;
        }

        // False if there are too many.
        boolean find(Play play, Table table) {
            if (!known) {
                known = true;
                tooMany = !collect(play) || rows.howMany(kinds) == NONE;
                if (!tooMany) {
                    playAll(play, table);
                }
            }
            return !tooMany;
        }

        private boolean collect(Play play) {
            places = 0;
            for (int i = 0; i < KINDS; i++) {
                kinds[i] = 0;
            }
            for (int side = LEFT; side <= RIGHT; side++) {
                for (int i = 0; i < play.many[side]; i++) {
                    if (play.isHidden(side, i)) {
                        if (places >= Rows.CARDS_MOST) {
                            return false;
                        }
                        sides[places] = side;
                        depths[places] = i;
                        places++;
                        kinds[play.kindAt(side, i)]++;
                    }
                }
            }
            return true;
        }

        private void playAll(Play play, Table table) {
            found[0] = 0;
            found[1] = 0;
            found[2] = 0;
            rows.toFirst(kinds);
            for (int number = 0; number < Rows.ROWS_MOST; number++) {
                ending.play.copyFrom(play);
                for (int i = 0; i < places; i++) {
                    ending.play.cards[ending.play.placeOf(sides[i], depths[i])] = rows.cards[i];
                }
                ending.go(table.lay, table.limit);
                if (ending.result < GOES_ROUND) {
                    found[ending.result]++;
                }
                found[2]++;
                if (!rows.toNext()) {
                    break;
                }
            }
        }
    }

    /** How to lay HEAPS by choice: one play for each HEAP that lies behind. */
    private static final class Laying {
        static final int CHOICE_MOST = 6;
        static final int BOTH_MOST = 4;

        final int[] path = new int[CHOICE_MOST];
        int pathMany;
        private Play[] plays;
        private int fewest = NONE;
        private int nextToTry;

        void forget() {
            fewest = NONE;
            nextToTry = 0;
        }

        // Tried with 0 HEAPS, then 1, and so on: the first that does has the fewest.
        int fewestHeaps(Play play, int order, int within) {
            for (; nextToTry <= within && nextToTry <= CHOICE_MOST && fewest == NONE; nextToTry++) {
                begin(play);
                if (canWin(0, nextToTry, 0, order)) {
                    fewest = nextToTry;
                }
            }
            return fewest <= within ? fewest : NONE;
        }

        boolean winsAgainstAny(Play play, int within) {
            begin(play);
            return winsHowever(0, Math.min(within, BOTH_MOST));
        }

        private void begin(Play play) {
            if (plays == null) {
                plays = new Play[CHOICE_MOST + 1];
                for (int i = 0; i <= CHOICE_MOST; i++) {
                    plays[i] = new Play();
                }
            }
            plays[0].copyFrom(play);
        }

        private boolean canWin(int level, int more, int chosen, int order) {
            Play play = plays[level];
            if (play.turnToHeap() == LOST) {
                pathMany = chosen;
                return play.won == LEFT;
            }
            if (more <= 0 || level >= CHOICE_MOST) {
                return false;
            }
            if (play.taker == RIGHT) {
                layNext(level, order);
                return canWin(level + 1, more - 1, chosen, order);
            }
            for (int by = 0; by < ORDERS; by++) {
                path[chosen] = by;
                layNext(level, by);
                if (canWin(level + 1, more - 1, chosen + 1, order)) {
                    return true;
                }
            }
            return false;
        }

        // Where left lays one ORDER must do, where right lays all of them.
        private boolean winsHowever(int level, int more) {
            Play play = plays[level];
            if (play.turnToHeap() == LOST) {
                return play.won == LEFT;
            }
            if (more <= 0 || level >= BOTH_MOST) {
                return false;
            }
            boolean lefts = play.taker == LEFT;
            for (int by = 0; by < ORDERS; by++) {
                layNext(level, by);
                if (winsHowever(level + 1, more - 1) == lefts) {
                    return lefts;
                }
            }
            return !lefts;
        }

        private void layNext(int level, int order) {
            plays[level + 1].copyFrom(plays[level]);
            plays[level + 1].layHeap(order);
        }
    }
}
