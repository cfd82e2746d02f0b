import java.util.NoSuchElementException;
import java.util.Random;

/** Any arguments in any state: no call throws but orders(), and that only if no HEAP was taken in this GAME. */
public final class NeverThrowsTest {
    private static final int[] EDGES = {Integer.MIN_VALUE, Integer.MIN_VALUE + 1, -1000, -2, -1, 0, 1, 2, 3, 4, 5, 6, 7,
        8, 9, 10, 12, 16, 20, 21, 24, 40, 48, 50, 51, 64, 100, 200, 201, 1000, 1001, 9999, 10000, 20000,
        Integer.MAX_VALUE - 1, Integer.MAX_VALUE};
    private static final String[] TABLES = {
        "kind a pays 1;kind b pays 2;kind c pays 0;pack a 2;pack b 2;pack c 3;lay low;limit 60;bet ahead*9999*more;",
        "kind a pays 6;kind b pays 0;pack a 12;pack b 12;lay halves;limit 3000;first right;bet turns - heaps * 50;",
        "kind a pays 1;kind b pays 0;pack a 1;lay high;", "kind a pays 0;pack a 1;first right;", "", "limit 10;",
        "kind a pays 1;kind b pays 2;kind c pays 3;kind d pays 4;kind e pays 5;kind f pays 6;kind g pays 0;"
            + "kind h pays 0;pack g 3;pack h 2;pack a 1;lay about;limit 3000;"};
    private static final String[] DEALS = {"left a b c; right c b a;", "left 12 a 12 b; right 12 b 12 a;", "left ;",
        "right a;", "left a;", "left 12 b 12 b; right 12 b 11 b a;", "left 12 g a; right 12 h f;"};

    private final Random random;
    private final BeggarHeaps x = new BeggarHeaps();

    private NeverThrowsTest(int seed) {
        random = new Random(seed);
    }

    public static void main(String[] args) {
        for (int seed = 0; seed < 400; seed++) {
            new NeverThrowsTest(seed).go();
        }
        Checks.finish("NeverThrowsTest");
    }

    private int any() {
        return random.nextInt(5) == 0 ? random.nextInt() : EDGES[random.nextInt(EDGES.length)];
    }

    private int few() {
        return random.nextInt(3) == 0 ? any() : random.nextInt(9) - 1;
    }

    private void go() {
        for (int i = 0; i < 300; i++) {
            int which = random.nextInt(40);
            try {
                call(which);
            } catch (NoSuchElementException e) {
                Checks.due("only orders() throws, and only without a heap", true, which == 28 && x.count(9) == 0);
            } catch (RuntimeException e) {
                Checks.dueText("call " + which, "no exception", e.toString());
            }
        }
        Checks.due("still answers", true, x.count(11) >= 0);
    }

    private void call(int which) {
        switch (which) {
            case 0: x.feed(random.nextLong(), random.nextLong(), random.nextLong()); break;
            case 1: x.table(); break;
            case 2: x.deal(); break;
            case 3: x.book(); break;
            case 4: x.kind(few(), few()); break;
            case 5: x.card(few(), few()); break;
            case 6: x.heap(any()); break;
            case 7: x.taken(few(), few()); break;
            case 8: x.turn(any()); break;
            case 9: x.slip(few()); break;
            case 10: x.undo(); break;
            case 11: x.again(); break;
            case 12: x.ends(few()); break;
            case 13: x.all(few()); break;
            case 14: x.row(few(), few()); break;
            case 15: x.beginner(few()); break;
            case 16: x.worth(few(), few()); break;
            case 17: x.leads(few(), few()); break;
            case 18: x.laws(few(), few(), few()); break;
            case 19: x.unseen(few()); break;
            case 20: x.odds(few()); break;
            case 21: x.offer(); break;
            case 22: x.bet(few(), any()); break;
            case 23: x.take(few()); break;
            case 24: x.choice(few(), few()); break;
            case 25: x.both(few()); break;
            case 26: x.opening(few()); break;
            case 27: x.comes(few()); break;
            case 28: x.orders(); break;
            case 29: x.clear(); break;
            case 30: x.drawn(any()); break;
            case 31: x.games(any(), few(), few()); break;
            case 32: x.looked(any(), few(), few()); break;
            case 33: x.mark(few(), random.nextBoolean()); break;
            case 34: x.count(any()); break;
            case 35: if (random.nextInt(4) == 0) Checks.table(x, TABLES[random.nextInt(TABLES.length)]); break;
            case 36: Checks.deal(x, DEALS[random.nextInt(DEALS.length)]); break;
            case 37: Checks.book(x, "opening a, b won left; opening , won nobody; opening 6 a, 6 b won right;"); break;
            case 38: x.turn(1 + random.nextInt(9)); break;
            default: Checks.feed(x, "kind not ( 1234 ;;; bet (((((((("); break;
        }
    }
}
