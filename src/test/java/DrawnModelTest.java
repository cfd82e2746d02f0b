import java.util.ArrayList;
import java.util.Arrays;
import java.util.Collections;
import java.util.List;
import java.util.Random;

/** Whole games that are drawn, long ones among them: BeggarHeaps and PlainModel must answer alike. */
public final class DrawnModelTest {
    private static final String[] LAYS = {"under", "about", "high", "low", "halves"};
    // Laid under and low it goes round most often.
    private static final int[] OFTEN = {0, 3, 0, 3, 4, 0, 3, 1, 2};
    private static final String SMALL = "kind a pays 1;kind b pays 2;kind c pays 0;";
    private static final String[] SMALL_PACKS = {"pack a 2;pack b 1;pack c 5;", "pack a 3;pack c 4;",
        "pack a 2;pack b 2;pack c 6;", "pack a 4;pack b 1;pack c 3;"};
    private static final String LONG = "kind p pays 0;kind j pays 1;kind q pays 2;kind k pays 3;kind a pays 4;kind s pays 0;";
    private static final String[] LONG_PACKS = {"pack p 12;pack j 2;pack q 2;pack k 2;pack a 2;pack s 4;",
        "pack s 12;pack p 6;pack j 6;", "pack p 12;pack j 3;pack q 1;", "pack p 11;pack s 1;pack j 4;pack q 4;",
        "pack p 9;pack j 1;pack q 1;pack k 1;pack a 1;"};

    public static void main(String[] args) {
        for (String lay : LAYS) {
            for (String pack : SMALL_PACKS) {
                layings(SMALL + pack + "lay " + lay + ";limit 200;bet 20 + more;");
            }
            for (String pack : LONG_PACKS) {
                longGames(LONG + pack + "lay " + lay + ";limit 3000;");
            }
        }
        longDeals();
        Checks.finish("DrawnModelTest");
    }

    private static void tell(BeggarHeaps x, PlainModel m, String text) {
        for (int i = 0; i < text.length(); i += 24) {
            long[] p = Checks.packed(text, i);
            x.feed(p[0], p[1], p[2]);
            m.feed(p[0], p[1], p[2]);
        }
    }

    private static void layings(String table) {
        for (int seed = 0; seed < 12; seed++) {
            BeggarHeaps x = new BeggarHeaps();
            PlainModel m = new PlainModel();
            tell(x, m, table);
            Checks.due("table()", m.table(), x.table());
            Checks.due("drawn", m.drawn(seed), x.drawn(seed));
            String at = table + " seed " + seed + " ";
            for (int heaps = 1; heaps <= 6; heaps++) {
                for (int what = -1; what <= 6; what++) {
                    Checks.due(at + "choice(" + heaps + ", " + what + ")", m.choice(heaps, what), x.choice(heaps, what));
                }
                if (heaps <= 4) {
                    Checks.due(at + "both(" + heaps + ")", m.both(heaps), x.both(heaps));
                }
            }
            Checks.due("turn", m.turn(3 + seed % 5), x.turn(3 + seed % 5));
            for (int what = 0; what < 3; what++) {
                Checks.due(at + "odds(" + what + ")", m.odds(what), x.odds(what));
                Checks.due(at + "take(" + what + ")", m.take(what), x.take(what));
            }
        }
    }

    private static void longGames(String table) {
        BeggarHeaps x = new BeggarHeaps();
        PlainModel m = new PlainModel();
        tell(x, m, table);
        Checks.due("table()", m.table(), x.table());
        for (int seed = 0; seed < 60; seed++) {
            Checks.due("drawn", m.drawn(seed), x.drawn(seed));
            dueEnds(table + " seed " + seed, x, m);
        }
        Checks.due("looked", m.looked(1, 60, -1), x.looked(1, 60, -1));
    }

    private static void dueEnds(String at, BeggarHeaps x, PlainModel m) {
        for (int what = 0; what < 4; what++) {
            Checks.due(at + " ends(" + what + ")", m.ends(what), x.ends(what));
        }
    }

    // Rows told by hand, of up to 48 cards with few that make pay: many of them go round, some for long.
    private static void longDeals() {
        Random random = new Random(48);
        int[] results = new int[4];
        for (int n = 0; n < 900; n++) {
            BeggarHeaps x = new BeggarHeaps();
            PlainModel m = new PlainModel();
            String kinds = n % 2 == 0 ? LONG : "kind j pays 1;kind q pays 2;kind p pays 0;kind s pays 0;kind k pays 3;";
            tell(x, m, kinds + "lay " + LAYS[OFTEN[n % OFTEN.length]] + ";limit " + (n % 8 == 0 ? 100 : 3000) + ";");
            Checks.due("table()", m.table(), x.table());
            int makers = n % 3 == 0 ? 2 + random.nextInt(12) : 2 + random.nextInt(10) / 8;
            String deal = randomDeal(random, 12 + 2 * random.nextInt(19), makers);
            tell(x, m, deal);
            Checks.due("deal()", m.deal(), x.deal());
            results[x.ends(0)]++;
            dueEnds(deal, x, m);
            Checks.due("turn", m.turn(999), x.turn(999));
            dueEnds(deal, x, m);
            Checks.due("slip", m.slip(n % 3), x.slip(n % 3));
            dueEnds(deal, x, m);
            for (int what = 2; what < 12; what++) {
                Checks.due(deal + " count(" + what + ")", m.count(what), x.count(what));
            }
        }
        System.out.println("left, right, round, none: " + Arrays.toString(results));
        Checks.due("many go round", true, results[2] >= 40);
        Checks.due("some don't end", true, results[3] > 0);
    }

    private static String randomDeal(Random random, int cards, int makers) {
        List<String> row = new ArrayList<>();
        for (int i = 0; i < cards; i++) {
            row.add(i >= makers ? "p" : random.nextInt(12) > 0 ? "j" : random.nextInt(3) > 0 ? "q" : "s");
        }
        Collections.shuffle(row, random);
        return "left " + String.join(" ", row.subList(0, cards / 2)) + ";right " + String.join(" ", row.subList(cards / 2, cards)) + ";";
    }
}
