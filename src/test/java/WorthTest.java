/** Promises 19 to 26: odds, who is named, confessions, papers, marks. */
public final class WorthTest {
    public static void main(String[] args) {
        odds();
        items();
        named();
        confessions();
        papers();
        marks();
        Check.end();
    }

    private static long divisor(long a, long b) {
        return b == 0 ? a : divisor(b, a % b);
    }

    /** How many of all lots have k or more hits, by trying each of them. */
    private static long lots(int q, int m, int k) {
        if (q == 0) {
            return k <= 0 ? 1 : 0;
        }
        return lots(q - 1, m, k - 1) + (m - 1) * lots(q - 1, m, k);
    }

    private static void odds() {
        for (int q = 1; q <= 9; q++) {
            PenThatJumps x = new PenThatJumps();
            for (int m = 2; m <= 9; m++) {
                long all = 1;
                for (int i = 0; i < q; i++) {
                    all *= m;
                }
                for (int k = 0; k <= q; k++) {
                    long ways = lots(q, m, k);
                    Check.due("odds above", x.odds(q, m, k, 0), ways / divisor(ways, all));
                    Check.due("odds below", x.odds(q, m, k, 1), all / divisor(ways, all));
                }
            }
        }
        int[][] wrong = {{0, 2, 0, 0}, {10, 2, 0, 0}, {1, 1, 0, 0}, {1, 10, 0, 0}, {3, 2, -1, 0}, {3, 2, 4, 0},
            {3, 2, 1, 2}, {3, 2, 1, -1}, {Integer.MIN_VALUE, 0, 0, 0}};
        PenThatJumps y = new PenThatJumps();
        for (int[] w : wrong) {
            Check.due("odds of what is not", y.odds(w[0], w[1], w[2], w[3]), -1);
        }
    }

    private static void items() {
        PenThatJumps x = new PenThatJumps();
        for (int m = 2; m <= 9; m++) {
            int below = 1;
            Check.due("items of 1", x.items(m, 1), 1);
            for (int q = 1; q <= 9; q++) {
                below *= m;
                Check.due("just enough", x.items(m, below), q);
                Check.due("one more", x.items(m, below + 1), q == 9 ? -1 : q + 1);
            }
        }
        Check.due("too sure", x.items(9, 999999999), -1);
        Check.due("sureness beyond", x.items(9, 1000000000), -1);
        Check.due("sureness 0", x.items(5, 0), -1);
        Check.due("sureness below", x.items(5, -5), -1);
        Check.due("of 1", x.items(1, 5), -1);
        Check.due("of 10", x.items(10, 5), -1);
    }

    private static void named() {
        PenThatJumps x = new PenThatJumps();
        Check.due("no plan", x.named(10, 1, 0, 0, 0, 1, 0), -1);
        Check.plan(x, 0, "ask asked;");
        Check.body(x, "line 0 = fear;");
        Check.reader(x, 0, "says when 4 < asked 0;");
        Check.due("nobody", x.named(10, 1, 0, 0, 0, 3, 0), -1);
        // Of three doers two are said, of four others one.
        x.person(0, 5, true, 0, false);
        Check.due("all have done it", x.named(10, 1, 0, 0, 0, 3, 0), -1);
        x.person(1, 9, false, 0, false);
        Check.due("one person, one seed, above", x.named(1, 1, 0, 0, 0, 1, 0), 1);
        Check.due("one person, one seed, below", x.named(1, 1, 0, 0, 0, 1, 1), 1);
        Check.due("one of two, below", x.named(2, 1, 0, 0, 0, 1, 1), 2);
        x.person(0, 5, false, 0, false);
        Check.due("nobody has done it", x.named(10, 1, 0, 0, 0, 3, 0), -1);
        x.person(0, 5, true, 0, false);
        x.person(1, 9, true, 0, false);
        x.person(2, 4, true, 0, false);
        x.person(3, 6, false, 0, false);
        x.person(4, 0, false, 0, false);
        x.person(5, 1, false, 0, false);
        x.person(6, 2, false, 0, false);
        // 10 * 2 / 3 of the ten, 90 * 1 / 4 of the others: 20 / 3 of 20 / 3 + 45 / 2.
        Check.due("above", x.named(100, 10, 0, 0, 0, 3, 0), 8);
        Check.due("below", x.named(100, 10, 0, 0, 0, 3, 1), 35);
        Check.due("none of them did it, above", x.named(100, 0, 0, 0, 0, 3, 0), 0);
        Check.due("none of them did it, below", x.named(100, 0, 0, 0, 0, 3, 1), 1);
        Check.due("all of them did it, above", x.named(100, 100, 0, 0, 0, 3, 0), 1);
        Check.due("all of them did it, below", x.named(100, 100, 0, 0, 0, 3, 1), 1);
        Check.due("nobody is said, above", x.named(100, 10, 0, 1, 0, 3, 0), 0);
        Check.due("nobody is said, below", x.named(100, 10, 0, 1, 0, 3, 1), 1);
        Check.due("the most people, above", x.named(9999, 5000, 0, 0, 0, 40, 0), 40000);
        Check.due("the most people, below", x.named(9999, 5000, 0, 0, 0, 40, 1), 54997);
        int[][] wrong = {{0, 0, 0, 0, 0, 3, 0}, {10000, 0, 0, 0, 0, 3, 0}, {5, 6, 0, 0, 0, 3, 0},
            {5, -1, 0, 0, 0, 3, 0}, {5, 1, 1, 0, 0, 3, 0}, {5, 1, 0, 4, 0, 3, 0}, {5, 1, 0, 0, 10, 3, 0},
            {5, 1, 0, 0, 0, 0, 0}, {5, 1, 0, 0, 0, 41, 0}, {5, 1, 0, 0, 0, 3, 2}, {5, 1, 0, 0, 0, 3, -1}};
        for (int[] w : wrong) {
            Check.due("named of what is not", x.named(w[0], w[1], w[2], w[3], w[4], w[5], w[6]), -1);
        }
    }

    private static void worth(PenThatJumps x, int whom, long above, long below) {
        Check.due("worth of " + whom + ", above", x.worth(whom, 0), above);
        Check.due("worth of " + whom + ", below", x.worth(whom, 1), below);
    }

    private static void noWorth(PenThatJumps x, int whom) {
        Check.none("worth of " + whom + ", above", () -> x.worth(whom, 0));
        Check.none("worth of " + whom + ", below", () -> x.worth(whom, 1));
    }

    private static void confessions() {
        PenThatJumps x = new PenThatJumps();
        Check.due("confess", x.confess(true, true, true, 2), true);
        noWorth(x, 0);
        Check.due("nobody more", x.confess(true, false, false, 0), true);
        noWorth(x, 0);
        Check.due("confess", x.confess(true, false, false, 3), true);
        worth(x, 0, 1, 1);
        noWorth(x, 1);
        worth(x, 2, 1, 1);
        x.confess(true, false, true, 1);
        worth(x, 0, 3, 4);
        x.confess(false, true, false, 6);
        x.confess(false, false, true, 2);
        worth(x, 1, -1, 1);
        // 2 of 8 who were named, 3 of 6 who were not.
        worth(x, 2, -1, 4);
        x.confess(true, true, true, 1);
        x.confess(true, true, false, 1);
        worth(x, 0, 1, 2);
        x.confess(false, true, true, 6);
        x.confess(false, false, false, 2);
        worth(x, 1, 0, 1);
        Check.due("n -1", x.confess(true, true, true, -1), false);
        Check.due("n 10000", x.confess(true, true, true, 10000), false);
        Check.due("nothing was counted", x.count(4), 24);
        Check.due("n 9999", x.confess(true, true, true, 9999), true);
        worth(x, 0, 10002 * 4L - 10003, 10003 * 4L);
        PenThatJumps z = new PenThatJumps();
        z.confess(false, false, true, 1);
        noWorth(z, 1);
        noWorth(z, 2);
        z.confess(false, true, true, 1);
        worth(z, 1, 0, 1);
        noWorth(z, 0);
        Check.none("whom 3", () -> x.worth(3, 0));
        Check.none("whom -1", () -> x.worth(-1, 0));
        Check.none("what 2", () -> x.worth(0, 2));
        Check.none("what -1", () -> x.worth(0, -1));
        PenThatJumps y = new PenThatJumps();
        for (int i = 0; i < 250; i++) {
            y.confess(false, true, i % 2 == 0, 9999);
            y.confess(false, false, i % 5 == 0, 9999 - i % 2);
        }
        Check.due("many people", y.count(4), 500 * 9999 - 125);
        long all = 250 * 9999L;
        long others = 250 * 9999L - 125;
        long yes = 50 * 9999L - 25;
        long above = all / 2 * others - yes * all;
        long common = divisor(above, all * others);
        worth(y, 1, above / common, all * others / common);
    }

    private static void papers() {
        PenThatJumps x = new PenThatJumps();
        Check.due("paper", x.paper(true, 10, 5), true);
        Check.none("one side alone", () -> x.lean(0));
        Check.none("one side alone, below", () -> x.lean(1));
        Check.due("paper", x.paper(false, 20, 15), true);
        Check.due("above", x.lean(0), -1);
        Check.due("below", x.lean(1), 4);
        x.paper(true, 2, 2);
        x.paper(true, 9999, 0);
        // 7 of 10011, less 3 of 4.
        Check.due("of all, above", x.lean(0), 7 * 4 - 3 * 10011);
        Check.due("of all, below", x.lean(1), 4 * 10011);
        Check.due("n 0", x.paper(true, 0, 0), false);
        Check.due("n -1", x.paper(true, -1, -1), false);
        Check.due("n 10000", x.paper(true, 10000, 0), false);
        Check.due("right -1", x.paper(true, 5, -1), false);
        Check.due("right beyond", x.paper(true, 5, 6), false);
        Check.due("people", x.count(5), 10031);
        Check.none("what 2", () -> x.lean(2));
        Check.none("what -1", () -> x.lean(-1));
        PenThatJumps z = new PenThatJumps();
        Check.due("one person", z.paper(true, 1, 1), true);
        Check.due("one person", z.paper(false, 1, 0), true);
        Check.due("of one each, above", z.lean(0), 1);
        Check.due("of one each, below", z.lean(1), 1);
        PenThatJumps y = new PenThatJumps();
        y.paper(false, 4, 1);
        Check.none("the other side alone", () -> y.lean(0));
        y.paper(true, 8, 2);
        Check.due("no lean, above", y.lean(0), 0);
        Check.due("no lean, below", y.lean(1), 1);
    }

    private static void marks() {
        PenThatJumps x = new PenThatJumps();
        Check.due("mark -1", x.mark(-1, false), false);
        Check.due("mark 4", x.mark(4, false), false);
        Check.due("back to -1", x.mark(-1, true), false);
        Check.due("back to 4", x.mark(4, true), false);
        Check.due("nothing is on it", x.mark(0, true), false);
        Check.due("a first mark", x.mark(0, false), true);
        x.person(0, 3, true, 0, false);
        Check.plan(x, 0, "ask plain;");
        Check.body(x, "line 0 = fear;");
        x.sit(0, 0, 0);
        x.sit(0, 0, 0);
        x.confess(true, true, true, 3);
        x.confess(true, false, false, 3);
        x.paper(true, 4, 4);
        x.paper(false, 4, 2);
        Check.due("a mark", x.mark(3, false), true);
        x.person(0, 7, false, 0, false);
        x.sit(0, 0, 0);
        x.confess(true, true, false, 3);
        x.paper(true, 4, 0);
        Check.due("worth has changed", x.worth(0, 1), 2);
        Check.due("lean has changed", x.lean(0), 0);
        Check.due("back", x.mark(3, true), true);
        Check.due("sittings", x.count(2), 2);
        Check.due("confessions", x.count(4), 6);
        Check.due("papers", x.count(5), 8);
        Check.due("worth", x.worth(0, 1), 1);
        Check.due("lean", x.lean(1), 2);
        Check.none("it is gone", () -> x.jump(2, 0, 0));
        Check.due("persons stay", x.count(3), 0);
        Check.due("the next one takes its number", x.sit(0, 0, 0), 2);
        Check.due("back to the first", x.mark(0, true), true);
        Check.due("no sittings", x.count(2), 0);
        Check.due("no confessions", x.count(4), 0);
        Check.due("no papers", x.count(5), 0);
        Check.none("no worth", () -> x.worth(0, 0));
        Check.none("no lean", () -> x.lean(0));
        x.confess(false, false, false, 1);
        Check.due("fewer sittings than on it", x.mark(3, true), false);
        Check.due("nothing has changed", x.count(4), 1);
        x.sit(0, 0, 0);
        Check.due("still fewer", x.mark(3, true), false);
        x.sit(0, 0, 0);
        Check.due("as many", x.mark(3, true), true);
        Check.due("sittings as they are now", x.jump(0, 0, 0), 7);
        Check.due("confessions of the mark", x.count(4), 6);
        Check.due("papers of the mark", x.count(5), 8);
        Check.due("a mark anew", x.mark(0, false), true);
        x.sit(0, 0, 0);
        Check.due("back to it", x.mark(0, true), true);
        Check.due("in place of the old", x.count(2), 2);
        x.mark(0, true);
        Check.due("it stays", x.count(4), 6);
    }
}
