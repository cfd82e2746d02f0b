/** What the tests share: feeding a text, telling what is not as due, and the exit code. */
final class Checks {
    private static int wrong;
    private static int checked;

    private Checks() { }

    static void due(String call, long want, long got) {
        checked++;
        if (want != got) {
            wrong++;
            if (wrong <= 50) {
                System.out.println(call + " answered " + got + ", due is " + want);
            }
        }
    }

    static void due(String call, boolean want, boolean got) {
        due(call, want ? 1 : 0, got ? 1 : 0);
    }

    static boolean allFine() {
        return wrong == 0;
    }

    static long[] packed(String text, int from) {
        long[] out = new long[3];
        for (int i = 0; i < 24; i++) {
            int c = from + i < text.length() ? text.charAt(from + i) & 255 : 0;
            out[i / 8] = out[i / 8] << 8 | c;
        }
        return out;
    }

    static void feed(BeggarHeaps x, String text) {
        for (int i = 0; i < text.length(); i += 24) {
            long[] p = packed(text, i);
            x.feed(p[0], p[1], p[2]);
        }
    }

    static int table(BeggarHeaps x, String text) {
        feed(x, text);
        return x.table();
    }

    static int deal(BeggarHeaps x, String text) {
        feed(x, text);
        return x.deal();
    }

    static int book(BeggarHeaps x, String text) {
        feed(x, text);
        return x.book();
    }

    /** A new object with a TABLE, and a DEAL if one is told. */
    static BeggarHeaps with(String table, String deal) {
        BeggarHeaps x = new BeggarHeaps();
        due("table() of " + table, 0, table(x, table));
        if (deal != null) {
            due("deal() of " + deal, 0, deal(x, deal));
        }
        return x;
    }

    static String rowOf(BeggarHeaps x, int side) {
        StringBuilder b = new StringBuilder();
        for (int i = 0; x.card(side, i) != BeggarHeaps.NONE; i++) {
            b.append(x.card(side, i));
        }
        return b.toString();
    }

    static void dueText(String call, String want, String got) {
        checked++;
        if (!want.equals(got)) {
            wrong++;
            System.out.println(call + " gave " + got + ", due is " + want);
        }
    }

    static void finish(String name) {
        System.out.println(name + ": " + checked + " answers, " + wrong + " not as due");
        System.exit(wrong == 0 ? 0 : 1);
    }
}
