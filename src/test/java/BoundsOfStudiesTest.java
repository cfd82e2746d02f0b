import java.math.BigInteger;
import java.util.ArrayList;
import java.util.List;

/** The bounds that the document names for ENDS, ALL, ODDS, CHOICE, DRAWN and what hangs on them; each sentence above its test. */
public final class BoundsOfStudiesTest {
    // 0 ace pays 4, 1 queen pays 2, 2 jack pays 1, 3 plain pays 0
    private static final String KINDS = "kind ace pays 4 ; kind queen pays 2 ; kind jack pays 1 ; kind plain pays 0 ; ";
    private static final String[] NAMES = {"ace", "queen", "jack", "plain"};
    // Left wins behind 6,616 turns.
    private static final String LONG = "left 2 plain jack 5 plain jack 11 plain jack 3 plain ;"
        + " right plain queen 3 plain jack 12 plain 2 plain queen 2 plain jack ;";
    // Behind 8 turns a round of 2,952.
    private static final String ROUND = "left 3 plain jack 12 plain 8 plain ;"
        + " right jack 3 plain jack 5 plain jack 2 plain jack 2 plain jack 7 plain ;";
    // Eight kinds, of which ALL can be told apart.
    private static final String EIGHT = "kind a pays 1 ; kind b pays 2 ; kind c pays 0 ; kind d pays 3 ; kind e pays 0 ; kind f pays 0 ;"
        + " kind g pays 4 ; kind h pays 0 ; limit 10 ; ";

    // In how many positions nobody leads, by cards and by what they make pay.
    private static final int[] EQUAL = new int[2];

    public static void main(String[] args) {
        endsWithinTheLimit();
        roundWithinTheLimit();
        roundFromWithin();
        roundsByHand();
        cardsOfAll();
        rowsOfAll();
        rowsInOrder();
        theLongest();
        beginners();
        worthOfAKind();
        leadsByHand();
        leadsOfTwenty();
        lawsByHand();
        unseenCards();
        oddsOfTen();
        oddsOfTwentyThousand();
        oddsByHand();
        takes();
        choices();
        choicesByHand();
        boths();
        eachOrderOfLeft();
        eachOrderOfRight();
        laidByChoiceWhenWon();
        draws();
        games();
        lookedFor();
        Checks.finish("BoundsOfStudiesTest");
    }

    private static void due(String call, long want, long got) {
        Checks.due(call, want, got);
    }

    private static void due(String call, boolean want, boolean got) {
        Checks.due(call, want, got);
    }

    private static BeggarHeaps behind(String table, String deal, int turns) {
        BeggarHeaps x = Checks.with(table, deal);
        for (int rest = turns; rest > 0; rest -= 1000) {
            x.turn(Math.min(rest, 1000));
        }
        due("so many turns by hand", turns, x.count(8));
        return x;
    }

    /** "ENDS, from now on ..., limit TURNS at most: left wins, right wins, it GOES ROUND, or none of these." */
    private static void endsWithinTheLimit() {
        int all = 6616;
        BeggarHeaps whole = behind(KINDS, LONG, all);
        due("nobody yet", -1, whole.count(10));
        due("right has none", 0, whole.turn(1));
        due("left has won", 0, whole.count(10));
        for (int limit : new int[] {10, 11, 1000, 2999, 3000}) {
            String table = KINDS + "limit " + limit + " ; ";
            for (int rest = limit - 1; rest <= limit + 1; rest++) {
                BeggarHeaps x = behind(table, LONG, all - rest);
                boolean within = rest <= limit;
                due("who wins, " + rest + " within " + limit, within ? 0 : 3, x.ends(0));
                due("turns", Math.min(rest, limit), x.ends(1));
                int before = x.count(9);
                BeggarHeaps then = behind(table, LONG, all - rest + Math.min(rest, limit));
                due("heaps", then.count(9) - before, x.ends(2));
                due("no round", 0, x.ends(3));
            }
        }
        BeggarHeaps x = behind(KINDS, LONG, all);
        due("he has none already", 0, x.ends(0));
        due("no turn more", 0, x.ends(1));
        due("no heap more", 0, x.ends(2));
        x.turn(1);
        due("won", 0, x.ends(0));
        due("no turn more", 0, x.ends(1));
        for (int what : new int[] {Integer.MIN_VALUE, -1, 4, Integer.MAX_VALUE}) {
            due("ends(" + what + ")", -1, x.ends(what));
        }
        due("1000 without a line", 3, Checks.with(KINDS, LONG).ends(0));
        due("1000 without a line", 1000, Checks.with(KINDS, LONG).ends(1));
        due("behind 5,616", 1000, behind(KINDS, LONG, all - 1000).ends(1));
        due("behind 5,616", 0, behind(KINDS, LONG, all - 1000).ends(0));
        due("behind 5,615", 3, behind(KINDS, LONG, all - 1001).ends(0));
    }

    private static String standing(BeggarHeaps x) {
        return Checks.rowOf(x, 0) + "/" + Checks.rowOf(x, 1) + "/" + x.count(4) + "/" + x.count(5);
    }

    /** "It GOES ROUND if within these TURNS ... rows and who is next are as they were before". */
    private static void roundWithinTheLimit() {
        int first = 8;
        int round = 2952;
        Checks.dueText("by hand", standing(behind(KINDS, ROUND, first)), standing(behind(KINDS, ROUND, first + round)));
        for (int limit : new int[] {2958, 2959, 2960, 2961, 3000}) {
            BeggarHeaps x = Checks.with(KINDS + "limit " + limit + " ; ", ROUND);
            boolean within = limit >= first + round;
            due("goes round within " + limit, within ? 2 : 3, x.ends(0));
            due("turns till then", within ? first : limit, x.ends(1));
            due("a round", within ? round : 0, x.ends(3));
            BeggarHeaps then = behind(KINDS, ROUND, within ? first : limit);
            due("heaps till then", then.count(9), x.ends(2));
        }
        // From a state of the round on it is the round alone.
        for (int limit = round - 1; limit <= round + 1; limit++) {
            BeggarHeaps x = behind(KINDS + "limit " + limit + " ; ", ROUND, first);
            due("nothing on the heap", 0, x.count(4));
            due("goes round within " + limit, limit >= round ? 2 : 3, x.ends(0));
            due("from now on", limit >= round ? 0 : limit, x.ends(1));
            due("a round", limit >= round ? round : 0, x.ends(3));
        }
    }

    /** "nothing lying on the HEAP and no SLIP waiting" (now or behind some TURNS from now on). */
    private static void roundFromWithin() {
        String table = "kind jack pays 1 ; kind plain pays 0 ; lay low ; limit ";
        String deal = "left jack plain ; right plain jack ;";
        // The first heap of two, then one of three for ever, right's and left's in turn: a round of six behind two.
        for (int turns = 0; turns <= 14; turns++) {
            int first = turns < 2 ? 2 - turns : (3 - (turns - 2) % 3) % 3;
            for (int limit = 10; limit <= 12; limit++) {
                BeggarHeaps x = behind(table + limit + " ;", deal, turns);
                due("behind " + turns, 2, x.ends(0));
                due("first", first, x.ends(1));
                due("heaps till then", first > 0 ? 1 : 0, x.ends(2));
                due("six", 6, x.ends(3));
            }
        }
        BeggarHeaps x = Checks.with(KINDS + "limit 3000 ;", ROUND);
        x.turn(8);
        due("goes round", 2, x.ends(0));
        due("now", 0, x.ends(1));
        x.slip(1);
        due("a slip waits: not now", true, x.ends(0) != 2 || x.ends(1) > 0);
        x.undo();
        due("goes round", 2, x.ends(0));
        due("now", 0, x.ends(1));
    }

    /** How it ends, found by hand; in the last two deals two states share a place where they are kept. */
    private static void roundsByHand() {
        String[] tables = {"lay low ;", "lay low ;", "lay under ; limit 3000 ;", "lay low ;", "lay halves ;"};
        String[] deals = {"left jack plain ; right plain jack ;", "left jack 3 plain ; right 2 plain jack ;", ROUND,
            "left 2 plain queen jack 2 plain jack plain ; right 4 plain jack 3 plain ;",
            "left plain queen jack plain jack plain jack 3 plain ; right 8 plain jack plain ;"};
        for (int i = 0; i < deals.length; i++) {
            BeggarHeaps x = Checks.with(KINDS + tables[i], deals[i]);
            due("goes round", 2, x.ends(0));
            dueEnds(x, Checks.with(KINDS + tables[i], deals[i]));
        }
        String eight = "kind a pays 0 ; kind b pays 1 ; kind c pays 1 ; kind d pays 0 ; kind e pays 2 ; kind f pays 1 ; kind g pays 0 ;"
            + " kind h pays 0 ; limit 300 ; ";
        String[] packs = {"pack a 1 ; pack b 1 ; pack c 1 ; pack d 2 ; pack g 1 ; pack h 2 ; lay low ;",
            "pack a 2 ; pack b 2 ; pack d 2 ; pack f 1 ; pack g 1 ; pack h 3 ; lay low ;",
            "pack a 4 ; pack c 2 ; pack e 1 ; pack f 2 ; pack g 4 ; pack h 5 ; lay about ;",
            "pack a 3 ; pack b 2 ; pack f 1 ; pack h 3 ; lay under ; first right ;"};
        for (String pack : packs) {
            for (int seed = 0; seed < 60; seed++) {
                BeggarHeaps x = Checks.with(eight + pack, null);
                BeggarHeaps y = Checks.with(eight + pack, null);
                x.drawn(seed);
                y.drawn(seed);
                dueEnds(x, y);
            }
        }
    }

    /** What x tells of its end, and y, which stands alike, comes to by hand. */
    private static void dueEnds(BeggarHeaps x, BeggarHeaps y) {
        int limit = x.count(16);
        List<String> states = new ArrayList<>();
        List<int[]> behind = new ArrayList<>();
        int[] dues = {3, limit, 0, 0};
        for (int t = 0; t <= limit && dues[0] == 3; t++) {
            int before = y.count(4) == 0 ? states.indexOf(standing(y)) : -1;
            if (before >= 0) {
                dues = new int[] {2, behind.get(before)[0], behind.get(before)[1], t - behind.get(before)[0]};
            } else if (y.count(2 + y.count(5)) == 0) {
                dues = new int[] {1 - y.count(5), t, y.count(9), 0};
            } else {
                states.add(y.count(4) == 0 ? standing(y) : "");
                behind.add(new int[] {t, y.count(9)});
                dues[2] = y.count(9);
                y.turn(1);
            }
        }
        for (int what = 0; what <= 3; what++) {
            due("ends(" + what + ")", dues[what], x.ends(what));
        }
    }

    private static BeggarHeaps packed(String rest) {
        return Checks.with(KINDS + rest, null);
    }

    /** "if they are 1 to 10 cards"; "left has the first half (the greater one of two unlike ones)". */
    private static void cardsOfAll() {
        for (int cards = 0; cards <= 12; cards++) {
            for (int first = 0; first <= 1; first++) {
                BeggarHeaps x = packed("pack plain " + cards + " ; limit 10 ; first " + (first == 0 ? "left" : "right") + " ;");
                boolean can = cards >= 1 && cards <= 10;
                // Who begins has none first if both have as many, else right.
                int winner = cards % 2 == 0 ? 1 - first : 0;
                int turns = cards % 2 == 1 && first == 1 ? cards - 1 : cards;
                due("rows of " + cards, can ? 1 : -1, x.all(0));
                due("left wins", can ? 1 - winner : -1, x.all(1));
                due("right wins", can ? winner : -1, x.all(2));
                due("go round", can ? 0 : -1, x.all(3));
                due("none", can ? 0 : -1, x.all(4));
                due("longest", can ? turns : -1, x.all(5));
                due("its number", can ? 0 : -1, x.all(6));
                due("its last card", can ? 3 : -1, x.row(0, cards - 1));
                due("no card behind it", -1, x.row(0, cards));
                due("worth", can ? 1 - winner : -1, cards % 2 == 0 && can ? 1 - winner : x.worth(3, 0));
                due("left has more", can ? cards % 2 : -1, x.worth(3, 1));
                due("beginner", can ? (cards % 2 == 0 ? 0 : 1) : -1, x.beginner(0));
                due("the other one", can ? (cards % 2 == 0 ? 2 : 1) : -1, x.beginner(1));
                due("all else", can ? 0 : -1, x.beginner(2));
                due("leads", can ? 0 : -1, x.leads(1, 1));
                due("mean above", can ? turns : -1, x.laws(3, 0, 0));
                due("mean below", can ? 1 : -1, x.laws(3, 0, 1));
                due("no round", can ? 0 : -1, x.laws(3, 0, 2));
            }
        }
        // 10 and 11 of more than one kind.
        due("10 of two kinds", 10, packed("pack plain 9 ; pack jack 1 ;").all(0));
        due("11 of two kinds", -1, packed("pack plain 10 ; pack jack 1 ;").all(0));
        due("12 and 12", -1, packed("pack plain 12 ; pack jack 12 ;").all(0));
    }

    /** "20,000 rows at most": 18,900 and 20,160 are next to it. */
    private static void rowsOfAll() {
        BeggarHeaps x = Checks.with(EIGHT + "pack a 2 ; pack b 2 ; pack c 4 ; pack d 2 ;", null);
        due("18,900 rows", 18900, x.all(0));
        due("each ends in one way", 18900, x.all(1) + x.all(2) + x.all(3) + x.all(4));
        due("each twice", 37800, x.beginner(0) + x.beginner(1) + x.beginner(2));
        due("worth", true, x.worth(0, 1) > 0);
        due("leads", true, x.leads(1, 1) > 0);
        due("laws", true, x.laws(0, 6, 0) > 0);
        String last = "3322221100";
        for (int i = 0; i < 10; i++) {
            due("the last row", last.charAt(i) - '0', x.row(18899, i));
            due("the first row", last.charAt(9 - i) - '0', x.row(0, i));
        }
        due("no row behind it", -1, x.row(18900, 0));
        String packs = "";
        for (char c = 'b'; c <= 'g'; c++) {
            packs += "pack " + c + " 1 ; ";
        }
        x = Checks.with(EIGHT + "pack a 1 ; " + packs, null);
        due("5,040 rows", 5040, x.all(0));
        x = Checks.with(EIGHT + "pack a 2 ; " + packs, null);
        due("20,160 rows", -1, x.all(0) + x.row(0, 0) + x.beginner(0) + x.worth(0, 0) + x.leads(1, 0) + x.laws(0, 0, 0) + 5);
        x = Checks.with(EIGHT + "pack a 1 ; pack h 1 ; " + packs, null);
        due("40,320 rows", -1, x.all(0) + x.row(0, 0) + x.beginner(0) + x.worth(0, 0) + x.leads(1, 0) + x.laws(0, 0, 0) + 5);
        x = Checks.with(EIGHT + "pack a 3 ; pack h 1 ; " + packs, null);
        due("10 cards, 604,800 rows", -1, x.all(0));
    }

    private static String rowOf(BeggarHeaps x, int number) {
        StringBuilder b = new StringBuilder();
        for (int i = 0; i < x.count(1); i++) {
            b.append(x.row(number, i));
        }
        return b.toString();
    }

    /** "the unlike rows of the cards of the PACK ... in order (by KINDS' numbers from the first card on)". */
    private static void rowsInOrder() {
        String[] packs = {"pack jack 1 ;", "pack ace 2 ; pack jack 3 ; pack plain 2 ;", "pack plain 3 ; pack queen 2 ; pack ace 1 ;",
            "pack ace 1 ; pack queen 1 ; pack jack 1 ; pack plain 1 ;"};
        int[] rows = {1, 210, 60, 24};
        for (int p = 0; p < packs.length; p++) {
            BeggarHeaps x = packed(packs[p] + " limit 10 ;");
            due("rows", rows[p], x.all(0));
            for (int n = 1; n < rows[p]; n++) {
                due("in order, none alike", true, rowOf(x, n - 1).compareTo(rowOf(x, n)) < 0);
            }
            for (int kind = 0; kind < 4; kind++) {
                int found = 0;
                for (char c : rowOf(x, rows[p] - 1).toCharArray()) {
                    found += c - '0' == kind ? 1 : 0;
                }
                due("the cards of the pack", x.kind(kind, 1), found);
            }
            due("no row behind them", -1, x.row(rows[p], 0));
            due("none before them", -1, x.row(-1, 0));
            due("no card before", -1, x.row(0, -1));
            due("no card behind", -1, x.row(0, x.count(1)));
        }
    }

    private static String dealOf(BeggarHeaps x, int number) {
        StringBuilder b = new StringBuilder("left ");
        int cards = x.count(1);
        for (int i = 0; i < cards; i++) {
            b.append(i == (cards + 1) / 2 ? "; right " : "").append(NAMES[x.row(number, i)]).append(' ');
        }
        return b.append(";").toString();
    }

    /** "the longest that ends; the first such one". */
    private static void theLongest() {
        String[] tables = {"pack jack 2 ; pack plain 3 ;", "pack jack 2 ; pack plain 4 ; lay low ; limit 12 ;",
            "pack ace 1 ; pack queen 1 ; pack plain 3 ; first right ; limit 10 ;", "pack plain 1 ; first right ;",
            "pack plain 2 ;", "pack jack 2 ; pack plain 2 ; lay low ;"};
        for (String rest : tables) {
            BeggarHeaps x = packed(rest);
            int longest = 0;
            int number = -1;
            int[] ends = new int[4];
            for (int n = 0; n < x.all(0); n++) {
                BeggarHeaps y = Checks.with(KINDS + rest, dealOf(x, n));
                ends[y.ends(0)]++;
                if (y.ends(0) < 2 && (number < 0 || y.ends(1) > longest)) {
                    longest = y.ends(1);
                    number = n;
                }
            }
            for (int i = 0; i < 4; i++) {
                due("how they end", ends[i], x.all(1 + i));
            }
            due("the longest", longest, x.all(5));
            due("the first such one", number, x.all(6));
        }
        for (int what : new int[] {Integer.MIN_VALUE, -1, 7, Integer.MAX_VALUE}) {
            due("all(" + what + ")", -1, packed("pack plain 1 ;").all(what));
        }
        due("two alike: the first one", 0, Checks.with(EIGHT + "pack c 1 ; pack e 1 ;", null).all(6));
    }

    /** "BEGINNER: of all rows, with left first and with right first, how often who begins wins." */
    private static void beginners() {
        beginnersOf("pack jack 2 ; pack plain 4 ; lay low ; limit 12 ; first ");
        beginnersOf("pack jack 2 ; pack plain 2 ; lay low ; first ");
        beginnersOf("pack jack 3 ; pack plain 4 ; lay halves ; first ");
    }

    private static void beginnersOf(String rest) {
        BeggarHeaps left = packed(rest + "left ;");
        BeggarHeaps right = packed(rest + "right ;");
        due("who begins", left.all(1) + right.all(2), left.beginner(0));
        due("the other one", left.all(2) + right.all(1), left.beginner(1));
        due("all else", left.all(3) + left.all(4) + right.all(3) + right.all(4), left.beginner(2));
        due("some is else", true, left.beginner(2) > 0);
        for (int what = 0; what <= 2; what++) {
            due("whoever is first", left.beginner(what), right.beginner(what));
        }
        due("what -1", -1, left.beginner(-1));
        due("what 3", -1, left.beginner(3));
    }

    /** "of ALL in which left has more of it than right, in how many left wins". */
    private static void worthOfAKind() {
        String rest = "pack jack 2 ; pack queen 1 ; pack plain 3 ; lay high ; limit 11 ;";
        BeggarHeaps x = packed(rest);
        for (int kind = 0; kind < 4; kind++) {
            int wins = 0;
            int rows = 0;
            for (int n = 0; n < x.all(0); n++) {
                BeggarHeaps y = Checks.with(KINDS + rest, dealOf(x, n));
                boolean more = y.kind(kind, 2) > y.kind(kind, 3);
                rows += more ? 1 : 0;
                wins += more && y.ends(0) == 0 ? 1 : 0;
            }
            due("left wins", wins, x.worth(kind, 0));
            due("rows", rows, x.worth(kind, 1));
        }
        due("none in the pack", 0, x.worth(0, 1));
        due("asked at first", x.worth(2, 0), packed(rest).worth(2, 0));
        due("kind -1", -1, x.worth(-1, 0));
        due("kind 4", -1, x.worth(4, 0));
        due("what -1", -1, x.worth(2, -1));
        due("what 2", -1, x.worth(2, 2));
    }

    /** "LEADS behind so many heaps (1 to 20; rows in which, with so many taken, nobody has WON)". */
    private static void leadsByHand() {
        String[] tables = {"pack jack 2 ; pack plain 3 ; limit 40 ;", "pack jack 2 ; pack plain 2 ; lay low ; limit 17 ;",
            "pack jack 2 ; pack plain 2 ; lay low ; limit 16 ;", "pack jack 2 ; pack plain 2 ; lay low ; limit 10 ;",
            "pack queen 1 ; pack jack 2 ; pack plain 3 ; first right ; lay halves ; limit 60 ;", "pack jack 5 ; pack plain 5 ; lay low ;"};
        for (String rest : tables) {
            BeggarHeaps x = packed(rest);
            int[] dues = new int[21 * 4];
            for (int n = 0; n < x.all(0); n++) {
                leadsOfRow(Checks.with(KINDS + rest, dealOf(x, n)), dues);
            }
            for (int heaps = 1; heaps <= 20; heaps++) {
                for (int what = 0; what <= 3; what++) {
                    due("leads(" + heaps + ", " + what + ") of " + rest, dues[heaps * 4 + what], x.leads(heaps, what));
                }
            }
        }
        due("in some both have as many cards", true, EQUAL[0] > 0);
        due("in some both make pay as much", true, EQUAL[1] > 0);
    }

    private static void leadsOfRow(BeggarHeaps y, int[] dues) {
        int winner = y.ends(0);
        int heaps = 0;
        for (int t = 0; t < y.count(16) && heaps < 20 && y.turn(1) == 1; t++) {
            if (y.count(9) > heaps) {
                heaps = y.count(9);
                int pays = 0;
                for (int kind = 0; kind < 4; kind++) {
                    pays += y.kind(kind, 0) * (y.kind(kind, 2) - y.kind(kind, 3));
                }
                int[] leads = {y.count(2) - y.count(3), pays};
                for (int i = 0; i < 2; i++) {
                    EQUAL[i] += leads[i] == 0 ? 1 : 0;
                    dues[heaps * 4 + 2 * i] += leads[i] != 0 && winner == (leads[i] > 0 ? 0 : 1) ? 1 : 0;
                    dues[heaps * 4 + 2 * i + 1] += leads[i] != 0 ? 1 : 0;
                }
            }
        }
    }

    private static void leadsOfTwenty() {
        BeggarHeaps x = packed("pack jack 5 ; pack plain 5 ; lay low ;");
        due("behind 20 some still play", true, x.leads(20, 1) > 0);
        due("some of them win", true, x.leads(20, 0) > 0);
        due("fewer than behind 19", true, x.leads(20, 1) < x.leads(19, 1));
        for (int heaps : new int[] {Integer.MIN_VALUE, -1, 0, 21, Integer.MAX_VALUE}) {
            due("leads(" + heaps + ", 1)", -1, x.leads(heaps, 1));
        }
        for (int what : new int[] {Integer.MIN_VALUE, -1, 4, Integer.MAX_VALUE}) {
            due("leads(1, " + what + ")", -1, x.leads(1, what));
        }
    }

    /** "if a KIND paid so many (0 to 6) ... the mean, above and below, in lowest terms". */
    private static void lawsByHand() {
        String round = "pack jack 2 ; pack plain 2 ; lay low ;";
        lawByHand(packed(round), 2, 1, round);
        due("one goes round", 1, packed(round).laws(2, 1, 2));
        String ace = "pack ace 1 ; pack jack 1 ; pack plain 3 ;";
        for (int kind = 0; kind < 4; kind++) {
            lawByHand(packed(ace), kind, 3, ace);
        }
        String rest = "pack jack 2 ; pack plain 3 ; lay high ; limit 30 ;";
        BeggarHeaps x = packed(rest);
        for (int kind = 0; kind < 4; kind++) {
            for (int pays = 0; pays <= 6; pays++) {
                lawByHand(x, kind, pays, rest);
            }
            due("pays -1", -1, x.laws(kind, -1, 0));
            due("pays 7", -1, x.laws(kind, 7, 0));
        }
        due("what -1", -1, x.laws(2, 1, -1));
        due("what 3", -1, x.laws(2, 1, 3));
        due("kind -1", -1, x.laws(-1, 1, 0));
        due("kind 4", -1, x.laws(4, 1, 0));
        // Lost at once: the mean is 0 / 1.
        x = packed("pack plain 1 ; first right ;");
        due("0 turns", 0, x.laws(3, 6, 0));
        due("below", 1, x.laws(3, 6, 1));
    }

    private static void lawByHand(BeggarHeaps x, int kind, int pays, String rest) {
        String[] told = {"4", "2", "1", "0"};
        told[kind] = "" + pays;
        String kinds = "";
        for (int i = 0; i < 4; i++) {
            kinds += "kind " + NAMES[i] + " pays " + told[i] + " ; ";
        }
        int sum = 0;
        int over = 0;
        int rounds = 0;
        for (int n = 0; n < x.all(0); n++) {
            BeggarHeaps y = Checks.with(kinds + rest, dealOf(x, n));
            sum += y.ends(0) < 2 ? y.ends(1) : 0;
            over += y.ends(0) < 2 ? 1 : 0;
            rounds += y.ends(0) == 2 ? 1 : 0;
        }
        int common = BigInteger.valueOf(sum).gcd(BigInteger.valueOf(over)).intValue();
        due("above, kind " + kind + " pays " + pays, sum / common, x.laws(kind, pays, 0));
        due("below", over / common, x.laws(kind, pays, 1));
        due("go round", rounds, x.laws(kind, pays, 2));
    }

    /** "UNSEEN are cards of the rows that were not turned yet since the DEAL." */
    private static void unseenCards() {
        BeggarHeaps x = Checks.with(KINDS, "");
        due("none", 0, x.unseen(0) + x.unseen(1));
        x = Checks.with(KINDS, "left jack 2 plain ; right 12 plain 12 plain ;");
        due("all", 3, x.unseen(0));
        due("all", 24, x.unseen(1));
        x.turn(1);
        due("one is turned", 2, x.unseen(0));
        x.turn(1);
        due("in the row, but seen", 2, x.unseen(0));
        due("in the row", 4, x.count(2));
        due("one is turned", 23, x.unseen(1));
        x.turn(6);
        due("all of left's own are seen", 0, x.unseen(0));
        x.undo();
        due("undone", 2, x.unseen(0));
        x.slip(0);
        due("a slip turns two", 0, x.unseen(0));
        due("side 2", -1, x.unseen(2));
        due("side -1", -1, x.unseen(-1));
    }

    /** "ODDS: all unlike rows of the KINDS of these on their places (10 at most ...)". */
    private static void oddsOfTen() {
        due("no card: one row", 1, Checks.with(KINDS, "").odds(2));
        for (int left = 0; left <= 11; left++) {
            int right = 11 - left;
            String lefts = left > 0 ? left + " plain" : "";
            String rights = right > 0 ? right + " plain" : "";
            BeggarHeaps x = Checks.with(KINDS, "left " + lefts + " ; right " + rights + " ;");
            due("11 cards, though one row", -1, x.odds(2));
            due("likewise", -1, x.odds(0));
            due("likewise", -1, x.odds(1));
            due("take", -1, x.take(0));
            due("take", -1, x.take(1));
            if (left > 0) {
                x.turn(1);
                due("10 cards", 1, x.odds(2));
                due("one of them wins", 1, x.odds(0) + x.odds(1));
                due("take", 1, x.take(0) + x.take(1));
            }
        }
        BeggarHeaps x = Checks.with(KINDS, "left 4 plain jack ; right 5 plain ;");
        due("10 cards: 10 rows", 10, x.odds(2));
        x = Checks.with(KINDS, "left jack 12 plain ; right 12 plain 12 plain ;");
        due("37 cards", -1, x.odds(2));
        // Seen cards of a row are no places: 12 unseen, then 10 beside what was taken.
        x = Checks.with(KINDS, "left jack 5 plain ; right 6 plain ;");
        due("12", -1, x.odds(2));
        x.turn(2);
        due("10, and 2 seen ones", 1, x.odds(2));
        due("what -1", -1, x.odds(-1));
        due("what 3", -1, x.odds(3));
        x.turn(1000);
        due("won: one row of the rest", 1, x.odds(2));
        due("who has won", 1, x.odds(x.count(10)));
    }

    /** "20,000 rows at most": 18,900 and 20,160 are next to it. */
    private static void oddsOfTwentyThousand() {
        BeggarHeaps x = Checks.with(EIGHT, "left a a b b c ; right c c c d d ;");
        due("18,900 rows", 18900, x.odds(2));
        due("take", true, x.take(0) >= 0 && x.take(1) >= 0);
        x = Checks.with(EIGHT, "left a a b c ; right d e f g ;");
        due("20,160 rows", -1, x.odds(2));
        due("odds", -1, x.odds(0));
        due("odds", -1, x.odds(1));
        due("take", -1, x.take(0));
        due("take", -1, x.take(1));
        x.turn(1);
        due("one a is seen: 5,040 rows", 5040, x.odds(2));
        x.undo();
        due("20,160 rows", -1, x.odds(2));
    }

    /** "all else as it is": of ALL rows those in which the same cards came so far; at first these are all. */
    private static void oddsByHand() {
        String rest = "pack queen 1 ; pack jack 2 ; pack plain 3 ; lay low ; limit 30 ;";
        BeggarHeaps all = packed(rest);
        for (int seed = 0; seed < 12; seed++) {
            for (int turns = 0; turns <= 6; turns++) {
                BeggarHeaps x = packed(rest);
                x.drawn(seed);
                String came = cameIn(x, turns);
                int[] dues = new int[3];
                for (int n = 0; n < all.all(0); n++) {
                    BeggarHeaps y = Checks.with(KINDS + rest, dealOf(all, n));
                    if (cameIn(y, turns).equals(came)) {
                        dues[2]++;
                        dues[0] += y.ends(0) == 0 ? 1 : 0;
                        dues[1] += y.ends(0) == 1 ? 1 : 0;
                    }
                }
                for (int what = 0; what <= 2; what++) {
                    due("odds(" + what + ") behind " + came, dues[what], x.odds(what));
                }
            }
        }
    }

    private static String cameIn(BeggarHeaps x, int turns) {
        StringBuilder b = new StringBuilder();
        for (int t = 0; t < turns; t++) {
            b.append(x.card(x.count(5), 0)).append(' ');
            x.turn(1);
        }
        return b.toString();
    }

    private static int takeAt(int offer, String deal, int side) {
        return Checks.with(KINDS + "bet " + offer + " ;", deal).take(side);
    }

    /** "its wins times the OFFER are more than all others times 10". */
    private static void takes() {
        String two = "left jack plain ; right plain ;";
        due("wins", 2, Checks.with(KINDS, two).odds(0));
        due("of three", 3, Checks.with(KINDS, two).odds(2));
        for (int offer : new int[] {0, 4, 5, 6, 19, 20, 21, 99}) {
            due("left at " + offer, 2 * offer > 10 ? 1 : 0, takeAt(offer, two, 0));
            due("right at " + offer, offer > 20 ? 1 : 0, takeAt(offer, two, 1));
        }
        String sure = "left 2 plain ; right plain ;";
        due("sure at 0", 0, takeAt(0, sure, 0));
        due("sure at 1", 1, takeAt(1, sure, 0));
        due("never at 99", 0, takeAt(99, sure, 1));
        // What goes round or does not end counts with the others: no row of this one ends in ten.
        BeggarHeaps x = Checks.with(KINDS + "bet 99 ; limit 10 ;", "left 4 plain ; right 6 plain ;");
        due("left has four: he loses behind eight", 1, x.odds(1));
        x = Checks.with(KINDS + "bet 99 ; limit 10 ;", "left 12 plain ; right 12 plain ;");
        x.turn(13);
        due("none wins within ten", 0, x.ends(0) == 3 ? x.odds(0) + 1 : 0);
        x.turn(1);
        due("ten are left: right wins", 1, x.odds(1));
        due("right is to be taken", 1, x.take(1));
        due("left is not", 0, x.take(0));
        for (int side : new int[] {Integer.MIN_VALUE, -1, 2, Integer.MAX_VALUE}) {
            due("take(" + side + ")", -1, x.take(side));
        }
        // One row of six goes round: 2 jacks and 2 plain ones, laid low.
        x = Checks.with(KINDS + "lay low ; bet 10 ;", "left jack plain ; right plain jack ;");
        int wins = x.odds(0);
        due("six rows", 6, x.odds(2));
        due("one goes round", 5, wins + x.odds(1));
        due("by wins against all others", wins > 6 - wins ? 1 : 0, x.take(0));
    }

    /** "the fewest HEAPS (of both) within which left can have WON, within so many (1 to 6)". */
    private static void choices() {
        String[] deals = {"left ace ; right plain ;", "left jack ; right plain ;", "left jack ; right plain plain jack ;",
            "left jack ; right plain plain jack plain ;", "left jack plain ; right plain jack jack ;",
            "left jack ; right plain plain jack jack ;", "left plain plain jack plain jack ; right jack ;"};
        for (int fewest = 0; fewest <= 6; fewest++) {
            BeggarHeaps x = Checks.with(KINDS, deals[fewest]);
            for (int heaps = 1; heaps <= 6; heaps++) {
                due(deals[fewest] + " within " + heaps, heaps >= fewest ? fewest : -1, x.choice(heaps, -1));
                due("his first order", heaps >= fewest && fewest > 0, x.choice(heaps, 0) >= 0);
            }
            int lefts = 0;
            while (lefts < 7 && x.choice(6, lefts) >= 0) {
                due("an order", true, x.choice(6, lefts) <= 4);
                lefts++;
            }
            due("no more of his than of both", true, lefts <= fewest);
            due("beyond", -1, x.choice(6, lefts));
            due("beyond", -1, x.choice(6, Integer.MAX_VALUE));
            due("what -2", -1, x.choice(6, -2));
            due("what MIN", -1, x.choice(6, Integer.MIN_VALUE));
            for (int heaps : new int[] {Integer.MIN_VALUE, -1, 0, 7, Integer.MAX_VALUE}) {
                due("choice(" + heaps + ", -1)", -1, x.choice(heaps, -1));
                due("choice(" + heaps + ", 0)", -1, x.choice(heaps, 0));
            }
            x.slip(1);
            due("a slip waits", -1, x.choice(6, -1));
            due("a slip waits", -1, x.choice(6, 0));
        }
        BeggarHeaps never = Checks.with(KINDS, "left ace ; right jack ;");
        for (int heaps = 1; heaps <= 6; heaps++) {
            due("left can't", -1, never.choice(heaps, -1));
            due("left can't", -1, never.choice(heaps, 0));
        }
        due("no limit of turns", 0, Checks.with(KINDS + "limit 10 ;", "left 9 plain ; right 8 plain ;").choice(1, -1));
        due("no limit of turns", 1, Checks.with(KINDS + "limit 10 ;", "left 9 plain ; right 8 plain ;").both(1));
    }

    /** "the first row of his ORDERS (under 0, about 1, high 2, low 3, halves 4) by which": one heap, laid by hand. */
    private static void choicesByHand() {
        String[] orders = {"under", "about", "high", "low", "halves"};
        int others = 0;
        for (int seed = 0; seed < 300; seed++) {
            String pack = "pack ace 1 ; pack jack 2 ; pack plain 4 ; ";
            BeggarHeaps x = packed(pack);
            x.drawn(seed);
            if (x.choice(1, -1) == 1 && x.choice(1, 0) >= 0) {
                int first = -1;
                for (int by = 0; by < 5 && first < 0; by++) {
                    BeggarHeaps y = packed(pack + "lay " + orders[by] + " ;");
                    y.drawn(seed);
                    boolean wins = y.ends(0) == 0 && y.ends(2) <= 1;
                    first = wins ? by : -1;
                }
                due("the first order by which", first, x.choice(1, 0));
                others += first > 0 ? 1 : 0;
            }
        }
        due("not always under", true, others > 0);
    }

    /** "whether left can have WON within so many HEAPS (1 to 4) however right lays his". */
    private static void boths() {
        String[] deals = {"left ace ; right plain ;", "left jack ; right plain ;", "left jack ; right plain plain jack ;",
            "left plain plain plain ace jack ; right jack ;", "left plain plain plain jack ace ; right jack ;",
            "left ace plain ace ace ; right jack ;"};
        int[] least = {1, 1, 2, 3, 4, 5};
        for (int i = 0; i < deals.length; i++) {
            BeggarHeaps x = Checks.with(KINDS, deals[i]);
            for (int heaps = 1; heaps <= 4; heaps++) {
                due(deals[i] + " within " + heaps, heaps >= least[i] ? 1 : 0, x.both(heaps));
            }
            for (int heaps : new int[] {Integer.MIN_VALUE, -1, 0, 5, Integer.MAX_VALUE}) {
                due("both(" + heaps + ")", -1, x.both(heaps));
            }
            x.slip(1);
            due("a slip waits", -1, x.both(4));
        }
        due("against one who can't choose he can", 1, Checks.with(KINDS, deals[5]).choice(1, -1));
    }

    /** "left lays each HEAP that he takes from now on by any ORDER": each of the five is the only one that does once. */
    private static void eachOrderOfLeft() {
        String[] deals = {"left 2 jack ; right ace plain ace plain ;", "left plain jack ; right 2 plain jack ;",
            "left 2 jack ; right ace 3 plain ;", "left ace jack ; right jack plain jack plain ;", "left queen ; right 2 plain jack ;"};
        for (int order = 0; order < 5; order++) {
            BeggarHeaps x = Checks.with(KINDS, deals[order]);
            due("one heap", 1, x.choice(1, -1));
            due("the only order", order, x.choice(1, 0));
            due("both", 1, x.both(1));
        }
        // The first one of those that do; two and three heaps.
        String[][] more = {
            {"left jack ; right 2 plain ace ;", "left jack ; right plain ace plain ;", "left ace plain 2 jack ; right plain jack queen ;",
                "left 2 plain jack ; right jack ace ;", "left queen jack ; right 3 plain jack ;"},
            {"left jack ; right 2 plain ace plain ;", "left jack plain ; right plain jack ace ;", "left 2 plain jack ace ; right jack plain ;",
                "left plain jack ; right 2 plain queen ace ;", "left queen plain ; right 2 plain 2 jack plain ;"}};
        for (int i = 0; i < 2; i++) {
            for (int order = 0; order < 5; order++) {
                BeggarHeaps x = Checks.with(KINDS, more[i][order]);
                due("heaps", i + 2, x.choice(6, -1));
                due("not fewer", -1, x.choice(i + 1, -1));
                due("the first order", order, x.choice(6, 0));
            }
        }
    }

    /** "however right lays his": each of the five is the only one that saves him once. */
    private static void eachOrderOfRight() {
        String[] orders = {"under", "about", "high", "low", "halves"};
        String[] deals = {"left 3 plain ace queen ; right queen ;", "left ace 3 plain queen ace ; right jack ;",
            "left 2 plain queen ace ; right jack ;", "left ace plain queen ace 2 plain jack ; right plain jack ;",
            "left plain ace 2 plain queen 2 ace ; right plain jack ;"};
        for (int order = 0; order < 5; order++) {
            for (int by = 0; by < 5; by++) {
                BeggarHeaps x = Checks.with(KINDS + "lay " + orders[by] + " ;", deals[order]);
                due("right lays by the table's", by == order ? -1 : 1, x.choice(1, -1));
                due("no order of left's", -1, x.choice(1, 0));
                due("right lays as he likes", 0, x.both(1));
            }
        }
    }

    private static void laidByChoiceWhenWon() {
        BeggarHeaps x = Checks.with(KINDS, "left plain ; right ;");
        x.turn(2);
        due("left has won", 0, x.choice(1, -1));
        due("no order", -1, x.choice(1, 0));
        due("left has won", 1, x.both(1));
        x = Checks.with(KINDS, "left ; right plain ;");
        due("left has lost", -1, x.choice(6, -1));
        due("left has lost", 0, x.both(4));
        x.turn(1);
        due("right has won", -1, x.choice(6, -1));
        due("right has won", 0, x.both(4));
        x = new BeggarHeaps();
        due("nothing there: right wins", -1, x.choice(6, -1));
        due("nothing there: right wins", 0, x.both(4));
    }

    /** The rows that a seed draws, by the document's words, in numbers without a bound. */
    private static int[][] drawn(BeggarHeaps x, int seed, int many) {
        BigInteger g = BigInteger.valueOf(seed);
        int cards = x.count(1);
        int[][] rows = new int[many][cards];
        for (int[] row : rows) {
            int at = 0;
            for (int kind = 0; kind < x.count(0); kind++) {
                for (int i = 0; i < x.kind(kind, 1); i++) {
                    row[at++] = kind;
                }
            }
            for (int i = cards - 1; i >= 1; i--) {
                g = g.multiply(BigInteger.valueOf(1103515245)).add(BigInteger.valueOf(12345)).mod(BigInteger.valueOf(2147483648L));
                int j = g.divide(BigInteger.valueOf(65536)).mod(BigInteger.valueOf(i + 1)).intValue();
                int card = row[i];
                row[i] = row[j];
                row[j] = card;
            }
        }
        return rows;
    }

    private static BeggarHeaps dealt(String table, int[] row) {
        StringBuilder b = new StringBuilder("left ");
        for (int i = 0; i < row.length; i++) {
            b.append(i == (row.length + 1) / 2 ? "; right " : "").append(NAMES[row[i]]).append(' ');
        }
        return Checks.with(table, b + ";");
    }

    /** "DRAWN by a SEED (0 to 9999) it is the DEAL: a new GAME: true; false: others, no card is in the PACK." */
    private static void draws() {
        String[] packs = {"pack jack 1 ;", "pack jack 1 ; pack plain 1 ;", "pack plain 12 ; pack jack 11 ;",
            "pack plain 12 ; pack jack 4 ; pack queen 4 ; pack ace 4 ;"};
        for (String pack : packs) {
            BeggarHeaps x = packed(pack);
            for (int seed : new int[] {0, 1, 4999, 9998, 9999}) {
                due("drawn", true, x.drawn(seed));
                BeggarHeaps y = dealt(KINDS + pack, drawn(x, seed, 1)[0]);
                Checks.dueText("as it is told", Looks.at(y), Looks.at(x));
                due("left has the greater half", (x.count(1) + 1) / 2, x.count(2));
                x.turn(1);
            }
            for (int seed : new int[] {Integer.MIN_VALUE, -1, 10000, Integer.MAX_VALUE}) {
                due("drawn(" + seed + ")", false, x.drawn(seed));
                due("the game stays", 1, x.count(8));
            }
            due("it is the deal", true, x.again());
            due("no turn", 0, x.count(8));
        }
        due("no card", false, packed("").drawn(0));
        due("no card", false, packed("pack jack 0 ;").drawn(0));
        due("no table", false, new BeggarHeaps().drawn(0));
    }

    /** "GAMES: so many of these (1 to 50), g goes on." */
    private static void games() {
        String[] tables = {KINDS + "pack jack 2 ; pack plain 2 ; lay low ; limit 10 ;", KINDS + "pack ace 1 ; pack plain 10 ; limit 10 ;",
            KINDS + "pack plain 12 ; pack jack 4 ; pack queen 4 ; pack ace 4 ; limit 60 ;",
            KINDS + "pack plain 12 ; pack jack 12 ; limit 10 ;"};
        for (String table : tables) {
            BeggarHeaps x = Checks.with(table, null);
            for (int seed : new int[] {0, 9999}) {
                int[][] rows = drawn(x, seed, 50);
                int[] dues = new int[4];
                int longest = 0;
                for (int many = 1; many <= 50; many++) {
                    BeggarHeaps y = dealt(table, rows[many - 1]);
                    dues[y.ends(0)]++;
                    longest = y.ends(0) < 2 ? Math.max(longest, y.ends(1)) : longest;
                    for (int what = 0; what <= 2; what++) {
                        due("games(" + seed + ", " + many + ", " + what + ")", dues[what], x.games(seed, many, what));
                    }
                    due("the longest that ends", longest, x.games(seed, many, 3));
                }
            }
            for (int bad : new int[] {Integer.MIN_VALUE, -1, 0, 51, Integer.MAX_VALUE}) {
                due("many " + bad, -1, x.games(0, bad, 0));
            }
            for (int bad : new int[] {Integer.MIN_VALUE, -1, 4, Integer.MAX_VALUE}) {
                due("what " + bad, -1, x.games(0, 1, bad));
            }
            for (int bad : new int[] {Integer.MIN_VALUE, -1, 10000, Integer.MAX_VALUE}) {
                due("seed " + bad, -1, x.games(bad, 1, 0));
                due("seed " + bad, -1, x.looked(bad, 1, -1));
            }
        }
        due("no card", -1, packed("").games(0, 1, 0));
    }

    /** "LOOKED FOR: of so many (1 to 200) the first one that GOES ROUND." */
    private static void lookedFor() {
        // By seed 94 the first round is the last one of 200.
        String table = KINDS + "pack jack 4 ; pack plain 6 ; lay halves ;";
        BeggarHeaps x = Checks.with(table, null);
        int[][] rows = drawn(x, 94, 200);
        for (int i = 0; i < 200; i++) {
            due("number " + i, i == 199, dealt(table, rows[i]).ends(0) == 2);
        }
        due("within 200", 199, x.looked(94, 200, -1));
        for (int i = 0; i < 10; i++) {
            due("its card " + i, rows[199][i], x.looked(94, 200, i));
        }
        due("no eleventh", -1, x.looked(94, 200, 10));
        due("what MAX", -1, x.looked(94, 200, Integer.MAX_VALUE));
        due("what -2", -1, x.looked(94, 200, -2));
        due("not within 199", -1, x.looked(94, 199, -1));
        due("no card of none", -1, x.looked(94, 199, 0));
        due("not within 1", -1, x.looked(94, 1, -1));
        for (int bad : new int[] {Integer.MIN_VALUE, -1, 0, 201, Integer.MAX_VALUE}) {
            due("many " + bad, -1, x.looked(94, bad, -1));
            due("many " + bad, -1, x.looked(94, bad, 0));
        }
        // One of six rows goes round: the first of them for some seeds.
        String small = KINDS + "pack jack 2 ; pack plain 2 ; lay low ;";
        BeggarHeaps y = Checks.with(small, null);
        for (int seed = 0; seed < 30; seed++) {
            int number = -1;
            int[][] drawn = drawn(y, seed, 200);
            for (int i = 199; i >= 0; i--) {
                number = dealt(small, drawn[i]).ends(0) == 2 ? i : number;
            }
            due("the first one of seed " + seed, number, y.looked(seed, 200, -1));
            due("just within", number, y.looked(seed, number + 1, -1));
            due("not within fewer", -1, number > 0 ? y.looked(seed, number, -1) : -1);
        }
        for (int bad : new int[] {Integer.MIN_VALUE, -1, 10000, Integer.MAX_VALUE}) {
            due("seed " + bad, -1, y.looked(bad, 200, -1));
            due("seed " + bad, -1, y.looked(bad, 200, 0));
        }
        due("what -2", -1, y.looked(0, 200, -2));
        due("what MIN", -1, y.looked(0, 200, Integer.MIN_VALUE));
        due("no card", -1, packed("").looked(0, 1, -1));
    }
}
