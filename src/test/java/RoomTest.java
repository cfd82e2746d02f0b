import java.lang.management.ManagementFactory;

/** What an object makes is made once: a dear run of 512 calls stays far below the room that all runs share. */
public final class RoomTest {
    private static final com.sun.management.ThreadMXBean THREADS =
        (com.sun.management.ThreadMXBean) ManagementFactory.getThreadMXBean();

    public static void main(String[] args) {
        run();
        long before = made();
        BeggarHeaps x = new BeggarHeaps();
        long constructed = made() - before;
        before = made();
        useAll(x);
        long first = made() - before;
        before = made();
        useAll(x);
        long second = made() - before;
        System.out.println("bytes: " + constructed + " by the constructor, " + first + " at first, " + second + " later");
        Checks.due("the constructor makes little", true, constructed < 40_000);
        Checks.due("first uses make little", true, first < 250_000);
        Checks.due("later uses make nothing but the test's own texts", true, second < 20_000);
        Checks.finish("RoomTest");
    }

    private static long made() {
        return THREADS.getThreadAllocatedBytes(Thread.currentThread().getId());
    }

    private static void run() {
        useAll(new BeggarHeaps());
    }

    private static void useAll(BeggarHeaps x) {
        Checks.table(x, "kind a pays 1;kind b pays 2;kind c pays 0;pack a 2;pack b 1;pack c 4;lay low;limit 300;bet more+9;");
        x.drawn(5);
        for (int i = 0; i < 20; i++) {
            x.slip(2);
            x.turn(1);
            x.bet(0, 1);
            x.mark(i % 4, i % 7 == 6);
            x.choice(6, -1);
            x.both(4);
            x.odds(i % 3);
            x.ends(i % 4);
            x.comes(2);
            x.undo();
            x.take(0);
        }
        for (int i = 0; i < 8; i++) {
            x.all(i);
            x.row(i, i);
            x.beginner(i);
            x.worth(i, 0);
            x.leads(i, 0);
            x.laws(i % 3, i, 0);
            x.games(i, 10, 0);
            x.looked(i, 20, -1);
        }
    }
}
