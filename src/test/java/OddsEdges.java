import java.math.BigInteger;

/** The document's fourth part: odds, who is named, confessions, papers and marks, at their edges. */
final class OddsEdges {
    private OddsEdges() {
    }

    static void all() {
        odds();
        items();
        namedRanges();
        namedParts();
        confessions();
        worth();
        papers();
        lean();
        marks();
        marksStay();
    }

    private static BigInteger big(long n) {
        return BigInteger.valueOf(n);
    }

    /** The ways to hit k or more of q, each one of m, by trying every lot. */
    private static long ways(int q, int m, int k) {
        if (q == 0) {
            return k <= 0 ? 1 : 0;
        }
        return ways(q - 1, m, k - 1) + (m - 1) * ways(q - 1, m, k);
    }

    private static void odds() {
        Check.says("ODDS that one who knows nothing HITS k or more of q (1 to 9) by lot, each one of m (2 to 9):");
        PenThatJumps x = new PenThatJumps();
        Check.rangeOf("q", 1, 9, v -> x.odds(v, 2, 0, 0));
        Check.rangeOf("m", 2, 9, v -> x.odds(3, v, 1, 0));
        for (int q = 1; q <= 9; q++) {
            int of = q;
            Check.rangeOf("k of " + q, 0, q, v -> x.odds(of, 5, v, 0));
        }
        Check.says("as a fraction in lowest terms.");
        for (int q = 1; q <= 9; q++) {
            PenThatJumps y = new PenThatJumps();
            for (int m = 2; m <= 9; m++) {
                for (int k = 0; k <= q; k++) {
                    BigInteger above = big(ways(q, m, k));
                    BigInteger below = big(m).pow(q);
                    BigInteger common = above.gcd(below);
                    String call = "odds of " + k + " of " + q + ", one of " + m;
                    Check.due(call + ", above", y.odds(q, m, k, 0), above.divide(common).longValueExact());
                    Check.due(call + ", below", y.odds(q, m, k, 1), below.divide(common).longValueExact());
                }
            }
        }
        PenThatJumps z = new PenThatJumps();
        Check.due("all of 9 of 9, above", z.odds(9, 9, 9, 0), 1);
        Check.due("all of 9 of 9, below", z.odds(9, 9, 9, 1), 387420489);
        Check.due("none or more, above", z.odds(9, 9, 0, 0), 1);
        Check.due("none or more, below", z.odds(9, 9, 0, 1), 1);
        Check.due("one of 2, above", z.odds(1, 2, 1, 0), 1);
        Check.due("one of 2, below", z.odds(1, 2, 1, 1), 2);
        // 1 - (1 / 2)^2, and 2 of 4 by halves: 6 + 4 + 1 of 16.
        Check.due("one or more of two, above", z.odds(2, 2, 1, 0), 3);
        Check.due("two or more of four, above", z.odds(4, 2, 2, 0), 11);
        Check.due("two or more of four, below", z.odds(4, 2, 2, 1), 16);
        // Two or more of three, each of 4: 3 * 3 + 1 of 64.
        Check.due("it is in lowest terms, above", z.odds(3, 4, 2, 0), 5);
        Check.due("it is in lowest terms, below", z.odds(3, 4, 2, 1), 32);
    }

    private static void items() {
        Check.says("ITEMS for a sureness p (1 to 999999999):");
        PenThatJumps x = new PenThatJumps();
        Check.due("the least p", x.items(9, 1), 1);
        Check.rangeOf("p of 9, below", 1, 387420489, v -> x.items(9, v));
        Check.due("the greatest p", x.items(9, 999999999), -1);
        Check.due("beyond it", x.items(9, 1000000000), -1);
        Check.rangeOf("m", 2, 9, v -> x.items(v, 2));
        Check.says("the least q for which all q have odds of 1 / p or less (9 at most).");
        for (int m = 2; m <= 9; m++) {
            PenThatJumps y = new PenThatJumps();
            int below = 1;
            Check.due("at least one of " + m, y.items(m, 1), 1);
            for (int q = 1; q <= 9; q++) {
                below *= m;
                Check.due("1 / " + below, y.items(m, below), q);
                Check.due("less than 1 / " + below, y.items(m, below + 1), q == 9 ? -1 : q + 1);
                Check.due("more than 1 / " + below, y.items(m, below - 1), q);
                Check.due("as the odds say", y.odds(q, m, q, 1), below);
            }
        }
    }

    /** So many who have done it, and who have not: reader 0 says it of some of each. */
    private static PenThatJumps told(int doers, int saidDoers, int others, int saidOthers) {
        PenThatJumps x = new PenThatJumps();
        Check.plan(x, 0, "ask plain;");
        Check.body(x, "line 0 = fear;");
        Check.reader(x, 0, "says when plain 0;");
        for (int i = 0; i < doers; i++) {
            x.person(i, i < saidDoers ? 9 : 0, true, 0, false);
        }
        for (int i = 0; i < others; i++) {
            x.person(7 - i, i < saidOthers ? 1 : 0, false, 0, false);
        }
        return x;
    }

    private static void named(PenThatJumps x, int n, int d, long above, long below) {
        for (int seeds : new int[] {1, 3, 40}) {
            String call = "named of " + n + ", " + d + ", seeds " + seeds;
            Check.due(call + ", above", x.named(n, d, 0, 0, 0, seeds, 0), above);
            Check.due(call + ", below", x.named(n, d, 0, 0, 0, seeds, 1), below);
        }
    }

    private static void namedRanges() {
        Check.says("NAMED: of n (1 to 9999) people d (0 to n) have DONE it;");
        PenThatJumps x = told(3, 2, 4, 1);
        Check.rangeOf("n", 1, 9999, v -> x.named(v, 0, 0, 0, 0, 1, 0));
        Check.rangeOf("n, with d 1", 1, 9999, v -> x.named(v, 1, 0, 0, 0, 1, 0));
        Check.rangeOf("d of 1", 0, 1, v -> x.named(1, v, 0, 0, 0, 1, 0));
        Check.rangeOf("d of 7", 0, 7, v -> x.named(7, v, 0, 0, 0, 1, 0));
        Check.rangeOf("d of 9999", 0, 9999, v -> x.named(9999, v, 0, 0, 0, 1, 0));
    }

    private static void namedParts() {
        Check.says("by RATES that were told those who are SAID among them come, as parts: of those who have DONE it"
                + " d * a / b, of others (n - d) * c / e.");
        // 10 * 2 / 3 and 90 * 1 / 4: 20 / 3 of 175 / 6.
        named(told(3, 2, 4, 1), 100, 10, 8, 35);
        named(told(3, 2, 4, 0), 100, 10, 1, 1);
        named(told(3, 3, 4, 4), 100, 10, 1, 10);
        named(told(1, 1, 1, 1), 9999, 1, 1, 9999);
        named(told(1, 1, 1, 1), 9999, 9998, 9998, 9999);
        // 5000 * 1 / 7 of 5000 / 7 + 4999; 4999 * 6 / 7 of 4999 * 6 / 7 + 5000.
        named(told(7, 1, 1, 1), 9999, 5000, 5000, 39993);
        named(told(7, 6, 1, 1), 9999, 4999, 14997, 32497);
        Check.says("The ODDS that one who is NAMED has DONE it, as a fraction in lowest terms (0 / 1 without any).");
        named(told(7, 6, 1, 1), 2, 1, 6, 13);
        named(told(4, 2, 4, 2), 4, 2, 1, 2);
        named(told(3, 0, 4, 1), 100, 10, 0, 1);
        named(told(3, 0, 4, 0), 100, 10, 0, 1);
        named(told(3, 2, 4, 0), 100, 0, 0, 1);
        named(told(3, 2, 4, 1), 100, 0, 0, 1);
        named(told(3, 0, 4, 1), 100, 100, 0, 1);
        named(told(3, 2, 4, 1), 100, 100, 1, 1);
        named(told(3, 2, 4, 1), 1, 1, 1, 1);
        named(told(3, 2, 4, 1), 1, 0, 0, 1);
    }

    private static void confessions() {
        Check.says("CONFESSIONS are counted: of people who have DONE it or not, were NAMED or not, CONFESS or not,"
                + " so many more (0 to 9999).");
        for (int bits = 0; bits < 8; bits++) {
            boolean done = (bits & 1) != 0;
            boolean named = (bits & 2) != 0;
            boolean yes = (bits & 4) != 0;
            PenThatJumps x = new PenThatJumps();
            Check.range("n", 0, 9999, v -> x.confess(done, named, yes, v));
            Check.due("9999 were counted", x.count(4), 9999);
            Check.due("one more", x.confess(done, named, yes, 1), true);
            Check.due("none more", x.confess(done, named, yes, 0), true);
            Check.due("so many more", x.count(4), 10000);
            sides(x, done, named, yes);
        }
    }

    /** Ten thousand were counted of one kind: against others it is seen of which. */
    private static void sides(PenThatJumps x, boolean done, boolean named, boolean yes) {
        x.confess(done, !named, !yes, 5000);
        long part = yes ? 1 : 0;
        long other = yes ? 0 : 1;
        long due = named ? part - other : other - part;
        Check.due("of their kind", x.worth(done ? 0 : 1, 0), due);
        Check.due("of all", x.worth(2, 0), due);
        Check.none("of the other kind", () -> x.worth(done ? 1 : 0, 0));
    }

    private static void worth(PenThatJumps x, int whom, long above, long below) {
        Check.due("worth of " + whom + ", above", x.worth(whom, 0), above);
        Check.due("worth of " + whom + ", below", x.worth(whom, 1), below);
    }

    private static void noWorth(PenThatJumps x, int whom) {
        Check.none("worth of " + whom + ", above", () -> x.worth(whom, 0));
        Check.none("worth of " + whom + ", below", () -> x.worth(whom, 1));
    }

    private static void worth() {
        Check.says("WORTH: the part that CONFESS of the NAMED, less that of those not NAMED"
                + " (of those who have DONE it, of others, of all);");
        PenThatJumps x = new PenThatJumps();
        x.confess(true, true, true, 1);
        x.confess(true, true, false, 2);
        x.confess(true, false, true, 1);
        x.confess(true, false, false, 3);
        x.confess(false, true, true, 2);
        x.confess(false, true, false, 3);
        x.confess(false, false, true, 5);
        x.confess(false, false, false, 1);
        // 1 / 3 - 1 / 4, 2 / 5 - 5 / 6, 3 / 8 - 6 / 10.
        worth(x, 0, 1, 12);
        worth(x, 1, -13, 30);
        worth(x, 2, -9, 40);
        Check.says("a fraction in lowest terms;");
        PenThatJumps y = new PenThatJumps();
        y.confess(true, true, true, 9999);
        y.confess(true, false, false, 9999);
        worth(y, 0, 1, 1);
        y.confess(true, false, true, 9999);
        worth(y, 0, 1, 2);
        y.confess(true, true, false, 9999);
        worth(y, 0, 0, 1);
        y.confess(true, true, false, 9999);
        worth(y, 0, -1, 6);
        PenThatJumps w = new PenThatJumps();
        w.confess(false, true, false, 7);
        w.confess(false, false, true, 9);
        worth(w, 1, -1, 1);
        manyPeople();
        Check.says("none if one of the two has no people.");
        PenThatJumps z = new PenThatJumps();
        for (int whom = 0; whom <= 2; whom++) {
            noWorth(z, whom);
        }
        z.confess(true, true, true, 5);
        z.confess(true, false, true, 0);
        z.confess(false, true, false, 0);
        z.confess(false, false, false, 5);
        noWorth(z, 0);
        noWorth(z, 1);
        worth(z, 2, 1, 1);
        z.confess(true, false, false, 1);
        worth(z, 0, 1, 1);
        noWorth(z, 1);
        z.confess(false, true, false, 1);
        worth(z, 1, 0, 1);
    }

    private static void manyPeople() {
        PenThatJumps x = new PenThatJumps();
        for (int i = 0; i < 254; i++) {
            x.confess(false, true, false, 9999);
            x.confess(false, false, true, 9998);
        }
        x.confess(false, true, true, 1);
        x.confess(false, false, false, 1);
        long named = 254 * 9999 + 1;
        long others = 254 * 9998 + 1;
        BigInteger above = big(others).subtract(big(254 * 9998).multiply(big(named)));
        BigInteger below = big(named).multiply(big(others));
        BigInteger common = above.gcd(below);
        worth(x, 1, above.divide(common).longValueExact(), below.divide(common).longValueExact());
    }

    private static void papers() {
        Check.says("PAPERS: by those who sell it or not: n asked (1 to 9999), r right (0 to n).");
        for (boolean sells : new boolean[] {true, false}) {
            PenThatJumps x = new PenThatJumps();
            Check.range("n", 1, 9999, v -> x.paper(sells, v, 0));
            Check.range("n, with r 1", 1, 9999, v -> x.paper(sells, v, 1));
            Check.range("r of 1", 0, 1, v -> x.paper(sells, 1, v));
            Check.range("r of 9999", 0, 9999, v -> x.paper(sells, 9999, v));
            Check.due("these were asked", x.count(5), 1 + 9999 + 1 + 9999 + 2 + 2 * 9999);
            Check.due("n as r below 0", x.paper(sells, -5, -5), false);
            Check.due("nobody, none right", x.paper(sells, 0, 0), false);
        }
    }

    private static void lean(PenThatJumps x, long above, long below) {
        Check.due("lean, above", x.lean(0), above);
        Check.due("lean, below", x.lean(1), below);
    }

    private static void lean() {
        Check.says("LEAN: the part right of all in those who sell it, less that in others, likewise.");
        PenThatJumps x = new PenThatJumps();
        Check.none("no papers, above", () -> x.lean(0));
        Check.none("no papers, below", () -> x.lean(1));
        x.paper(true, 9, 3);
        Check.none("none of others, above", () -> x.lean(0));
        Check.none("none of others, below", () -> x.lean(1));
        x.paper(false, 4, 1);
        lean(x, 1, 12);
        // All people of a side count alike, whichever paper they are in: 4 of 10, less 5 of 12.
        x.paper(true, 1, 1);
        x.paper(false, 8, 4);
        lean(x, -1, 60);
        PenThatJumps y = new PenThatJumps();
        y.paper(false, 1, 0);
        Check.none("none of those who sell", () -> y.lean(0));
        y.paper(true, 1, 1);
        lean(y, 1, 1);
        PenThatJumps z = new PenThatJumps();
        z.paper(true, 9999, 0);
        z.paper(false, 9999, 9999);
        lean(z, -1, 1);
        z.paper(true, 9999, 9999);
        lean(z, -1, 2);
        z.paper(false, 9999, 0);
        lean(z, 0, 1);
        z.paper(true, 1, 1);
        lean(z, 1, 2 * (2 * 9999 + 1));
    }

    private static void marks() {
        Check.says("MARKS 0 to 3 hold SITTINGS (how many), CONFESSIONS, PAPERS;");
        PenThatJumps x = new PenThatJumps();
        Check.range("mark", 0, 3, v -> x.mark(v, false));
        x.person(0, 1, false, 0, false);
        Check.plan(x, 0, "ask plain;");
        for (int mark = 0; mark < 4; mark++) {
            for (int i = 0; i < 6; i++) {
                x.sit(0, 0, i);
            }
            x.confess(true, mark % 2 == 0, true, 10);
            x.confess(true, mark % 2 != 0, false, 5);
            x.paper(true, 10, mark);
            x.paper(false, 5, 5 - mark);
            Check.due("mark " + mark, x.mark(mark, false), true);
        }
        Check.due("all sittings", x.count(2), 24);
        // Right of those who sell it: 0, 1, 3, 6; of others: 5, 9, 12, 14.
        int[] above = {-1, -17, -7, -11};
        int[] below = {1, 20, 10, 20};
        int[] worths = {1, 0, 1, 0};
        for (int mark = 3; mark >= 0; mark--) {
            Check.due("back to " + mark, x.mark(mark, true), true);
            Check.due("sittings", x.count(2), 6 * (mark + 1));
            Check.due("confessions", x.count(4), 15 * (mark + 1));
            Check.due("papers", x.count(5), 15 * (mark + 1));
            lean(x, above[mark], below[mark]);
            Check.due("worth", Long.signum(x.worth(0, 0)), worths[mark]);
        }
        Check.due("who was told, stays told", x.count(0), 1);
        Check.due("and the plan", x.count(1), 1);
        for (int bits = 0; bits < 8; bits++) {
            eachHeld((bits & 1) != 0, (bits & 2) != 0, (bits & 4) != 0);
        }
    }

    /** Confessions of each kind and papers of each side are on a mark. */
    private static void eachHeld(boolean done, boolean named, boolean yes) {
        PenThatJumps x = new PenThatJumps();
        x.confess(done, named, yes, 5);
        x.paper(done, 5, 4);
        x.mark(3, false);
        x.confess(done, named, yes, 7);
        x.confess(!done, !named, !yes, 7);
        x.paper(done, 7, 0);
        x.paper(!done, 7, 7);
        Check.due("back", x.mark(3, true), true);
        Check.due("confessions", x.count(4), 5);
        Check.due("papers", x.count(5), 5);
        Check.none("no paper on the other side", () -> x.lean(0));
        x.confess(done, !named, !yes, 1);
        x.confess(done, named, !yes, 5);
        x.paper(!done, 1, 0);
        // Half of those, less all or none of the others.
        int due = (named ? 1 : -1) * (yes ? 1 : -1);
        worth(x, done ? 0 : 1, due, 2);
        lean(x, done ? 4 : -4, 5);
    }

    private static void marksStay() {
        Check.says("MARKS stay as they are gone back to;");
        PenThatJumps x = new PenThatJumps();
        x.person(0, 1, false, 0, false);
        Check.plan(x, 0, "ask plain;");
        Check.body(x, "line 0 = fear;");
        x.sit(0, 0, 0);
        x.confess(true, true, true, 1);
        x.mark(2, false);
        x.sit(0, 0, 0);
        x.confess(true, true, true, 2);
        x.mark(3, false);
        for (int i = 0; i < 3; i++) {
            x.sit(0, 0, 0);
            x.confess(true, true, true, 100);
            Check.due("back", x.mark(2, true), true);
            Check.due("sittings", x.count(2), 1);
            Check.due("confessions", x.count(4), 1);
        }
        Check.due("the other one stays, too", x.mark(3, true), false);
        x.sit(0, 0, 0);
        Check.due("with its sittings", x.mark(3, true), true);
        Check.due("and its confessions", x.count(4), 3);
        Check.due("back to itself", x.mark(3, true), true);
        Check.due("as it was", x.count(4), 3);
        x.confess(true, true, true, 9);
        Check.due("laid anew", x.mark(3, false), true);
        x.confess(true, true, true, 9);
        Check.due("back to the new one", x.mark(3, true), true);
        Check.due("which holds more", x.count(4), 12);
        Check.says("SITTINGS told since are gone.");
        x.person(0, 7, false, 0, false);
        for (int i = 2; i < 24; i++) {
            Check.due("sit", x.sit(0, 0, 0), i);
        }
        Check.due("full", x.sit(0, 0, 0), -1);
        Check.due("back", x.mark(3, true), true);
        for (int i = 0; i < 24; i++) {
            int sitting = i;
            if (i < 2) {
                Check.due("an earlier one stays", x.jump(i, 0, 0), 1);
            } else {
                Check.none("a later one is gone", () -> x.jump(sitting, 0, 0));
                Check.due("for readers, too", x.says(i, 0, 0), -1);
            }
        }
        Check.due("there is room again", x.sit(0, 0, 0), 2);
        Check.due("with a new one", x.jump(2, 0, 0), 7);
    }
}
