/** Promises 9 to 15: sittings, their jumps, and those who read them. */
public final class SittingTest {
    private static final String FACTS =
            "ask plain; ask shaming; ask asked; ask known 2; ask known 5; ask plain; ask known 2; ask known 0;";

    public static void main(String[] args) {
        sit();
        bodyFacts();
        noise();
        limits();
        keptAsTheyWere();
        readerFacts();
        leans();
        hits();
        rates();
        tricked();
        Check.end();
    }

    private static void sit() {
        PenThatJumps x = new PenThatJumps();
        Check.due("nobody", x.sit(0, 0, 0), -1);
        x.person(3, 5, true, 0, false);
        Check.due("no plan", x.sit(3, 0, 0), -1);
        Check.plan(x, 1, "ask plain; ask asked;");
        Check.body(x, "line 1 = 7;");
        Check.due("plan not told", x.sit(3, 0, 0), -1);
        Check.due("person not told", x.sit(2, 1, 0), -1);
        Check.due("person -1", x.sit(-1, 1, 0), -1);
        Check.due("person 8", x.sit(8, 1, 0), -1);
        Check.due("plan -1", x.sit(3, -1, 0), -1);
        Check.due("plan 4", x.sit(3, 4, 0), -1);
        Check.due("seed -1", x.sit(3, 1, -1), -1);
        Check.due("seed 10000", x.sit(3, 1, 10000), -1);
        Check.due("none yet", x.count(2), 0);
        for (int i = 0; i < 24; i++) {
            Check.due("sit", x.sit(3, 1, i == 0 ? 9999 : i), i);
        }
        Check.due("a 25th", x.sit(3, 1, 0), -1);
        Check.due("24 are there", x.count(2), 24);
        Check.due("jump of the last", x.jump(23, 1, 1), 7);
        Check.none("sitting 24", () -> x.jump(24, 0, 0));
        Check.none("sitting -1", () -> x.jump(-1, 0, 0));
        Check.none("question 2", () -> x.jump(0, 2, 0));
        Check.none("question -1", () -> x.jump(0, -1, 0));
        Check.none("question most", () -> x.jump(0, Integer.MAX_VALUE, 0));
        Check.none("line 3", () -> x.jump(0, 0, 3));
        Check.none("line -1", () -> x.jump(0, 0, -1));
        PenThatJumps y = new PenThatJumps();
        Check.none("no sitting", () -> y.jump(0, 0, 0));
    }

    /** The jumps of a fact at the questions of FACTS, the true item being 2. */
    private static void fact(String fact, boolean done, int heard, boolean trick, int... due) {
        PenThatJumps x = new PenThatJumps();
        x.item(2);
        x.person(0, 6, done, heard, trick);
        Check.due("plan", Check.plan(x, 0, FACTS), 0);
        Check.due("body", Check.body(x, "line 2 = " + fact + ";"), 0);
        x.sit(0, 0, 77);
        for (int i = 0; i < 8; i++) {
            Check.due(fact + " at " + i, x.jump(0, i, 2), due[i]);
            Check.due("line 1 does not jump", x.jump(0, i, 1), 0);
        }
    }

    private static void bodyFacts() {
        fact("plain", true, 511, true, 1, 0, 0, 0, 0, 1, 0, 0);
        fact("shaming", true, 511, true, 0, 1, 0, 0, 0, 0, 0, 0);
        fact("asked", true, 511, true, 0, 0, 1, 0, 0, 0, 0, 0);
        fact("known", true, 511, true, 0, 0, 0, 1, 1, 0, 1, 1);
        fact("real", false, 0, false, 0, 0, 0, 1, 0, 0, 1, 0);
        fact("heard", false, 0, false, 0, 0, 0, 0, 0, 0, 0, 0);
        fact("heard", true, 0, false, 0, 0, 0, 1, 0, 0, 1, 0);
        fact("heard", false, 1 << 5, false, 0, 0, 0, 0, 1, 0, 0, 0);
        fact("heard", true, 1 << 5, false, 0, 0, 0, 1, 1, 0, 1, 0);
        fact("heard", false, 1 << 2, false, 0, 0, 0, 1, 0, 0, 1, 0);
        fact("heard", false, 1, false, 0, 0, 0, 0, 0, 0, 0, 1);
        fact("heard", true, 511, true, 0, 0, 0, 1, 1, 0, 1, 1);
        fact("fear", true, 0, false, 6, 6, 6, 6, 6, 6, 6, 6);
        fact("done", true, 0, false, 1, 1, 1, 1, 1, 1, 1, 1);
        fact("done", false, 511, true, 0, 0, 0, 0, 0, 0, 0, 0);
        fact("trick", false, 0, true, 1, 0, 0, 0, 0, 1, 0, 0);
        fact("trick", true, 511, false, 0, 0, 0, 0, 0, 0, 0, 0);
        fact("habit", true, 0, false, 0, 0, 0, 0, 1, 1, 2, 3);
        fact("place", true, 0, false, 0, 1, 2, 3, 4, 5, 6, 7);
    }

    private static void noise() {
        int[] seeds = {0, 1, 17, 4242, 9999};
        PenThatJumps x = new PenThatJumps();
        x.person(0, 0, false, 0, false);
        Check.plan(x, 0, "ask plain;".repeat(12));
        // Line 1 has no E: its draw is taken all the same.
        Check.body(x, "line 0 = noise; line 2 = 10 + noise;");
        for (int sitting = 0; sitting < seeds.length; sitting++) {
            x.sit(0, 0, seeds[sitting]);
            long g = seeds[sitting];
            for (int question = 0; question < 12; question++) {
                for (int line = 0; line < 3; line++) {
                    g = Math.floorMod(g * 1103515245L + 12345L, 1L << 31);
                    int noise = (int) (g / 65536 % 4);
                    int due = line == 0 ? noise : line == 1 ? 0 : 10 + noise;
                    Check.due("noise of seed " + seeds[sitting], x.jump(sitting, question, line), due);
                }
            }
        }
    }

    private static void limits() {
        PenThatJumps x = new PenThatJumps();
        x.person(0, 9, true, 0, false);
        Check.plan(x, 0, "ask plain; ask plain;");
        Check.body(x, "line 0 = 0 - 1; line 1 = 99 + habit; line 2 = 1 - habit * 2;");
        x.sit(0, 0, 0);
        Check.due("below 0", x.jump(0, 0, 0), 0);
        Check.due("99", x.jump(0, 0, 1), 99);
        Check.due("above 99", x.jump(0, 1, 1), 99);
        Check.due("1", x.jump(0, 0, 2), 1);
        Check.due("-1", x.jump(0, 1, 2), 0);
    }

    private static void keptAsTheyWere() {
        PenThatJumps x = new PenThatJumps();
        x.person(0, 4, true, 0, false);
        x.item(1);
        Check.plan(x, 0, "ask known 1; ask known 3;");
        Check.body(x, "line 0 = fear + 10 * heard;");
        Check.reader(x, 0, "says when real 0 = 14 and others 0 = 4 and asks = 2 and known 0 = 18;");
        x.sit(0, 0, 0);
        x.item(3);
        x.person(0, 9, false, 511, true);
        Check.plan(x, 0, "ask plain;");
        Check.body(x, "");
        Check.due("the jumps stay", x.jump(0, 0, 0), 14);
        Check.due("and the questions", x.jump(0, 1, 0), 4);
        Check.due("and the true item", x.hits(0, 0), 1);
        Check.due("for readers, too", x.says(0, 0, 0), 1);
        x.sit(0, 0, 0);
        Check.due("a new one is new", x.jump(1, 0, 0), 0);
        Check.none("with its own questions", () -> x.jump(1, 1, 0));
        Check.reader(x, 0, "says when asks = 1;");
        Check.due("readers are as they are now", x.says(0, 0, 0), 0);
        Check.due("of all sittings", x.says(1, 0, 0), 1);
    }

    private static void readerFacts() {
        PenThatJumps x = new PenThatJumps();
        x.item(2);
        x.person(0, 0, false, 0, false);
        Check.plan(x, 0, FACTS);
        // The jumps at the questions 0 to 7 are 1, 4, 9, 16, 25, 36, 49, 64 on line 1.
        Check.body(x, "line 1 = (place + 1) * (place + 1); line 2 = 9 - place;");
        x.sit(0, 0, 5);
        Check.plan(x, 1, "ask plain;");
        x.sit(0, 1, 5);
        String[] facts = {"asks", "plain 1", "shaming 1", "asked 1", "known 1", "real 1", "others 1",
            "plain 0", "known 0", "real 0", "others 0",
            "plain 2", "shaming 2", "asked 2", "known 2", "real 2", "others 2"};
        int[] due = {8, 37, 4, 9, 154, 49, 64, 0, 0, 0, 0, 13, 8, 7, 16, 6, 5};
        int[] dueOfPlain = {1, 1, 0, 0, 0, 0, 0, 0, 0, 0, 0, 9, 0, 0, 0, 0, 0};
        for (int i = 0; i < facts.length; i++) {
            Check.reader(x, 1, "says when " + facts[i] + " = " + due[i] + ";");
            Check.due(facts[i], x.says(0, 1, 0), 1);
            Check.reader(x, 1, "says when not (" + facts[i] + " = " + due[i] + ");");
            Check.due("not " + facts[i], x.says(0, 1, 0), 0);
            Check.reader(x, 1, "says when " + facts[i] + " = " + dueOfPlain[i] + ";");
            Check.due(facts[i] + " of a plain one", x.says(1, 1, 0), 1);
        }
        Check.reader(x, 2, "says when 0; says when file = 3; says when file - 4;");
        Check.due("the second line", x.says(0, 2, 3), 1);
        Check.due("what is below 0 is so", x.says(0, 2, -9), 1);
        Check.due("none of them", x.says(0, 2, 4), 0);
        Check.due("without lines", x.says(0, 3, 0), 0);
        Check.due("sitting 2", x.says(2, 2, 0), -1);
        Check.due("sitting -1", x.says(-1, 2, 0), -1);
        Check.due("reader 4", x.says(0, 4, 0), -1);
        Check.due("reader -1", x.says(0, -1, 0), -1);
        Check.due("file 10", x.says(0, 2, 10), -1);
        Check.due("file -10", x.says(0, 2, -10), -1);
        Check.due("file 9", x.says(0, 2, 9), 1);
    }

    private static void leans() {
        PenThatJumps x = new PenThatJumps();
        x.person(0, 0, false, 0, false);
        Check.plan(x, 0, "ask plain;");
        x.sit(0, 0, 0);
        Check.reader(x, 0, "says when file = 0 - 9; says when file = 9; says when file = 2;");
        Check.due("three files", x.leans(0, 0), 1 | 1 << 18 | 1 << 11);
        Check.reader(x, 1, "says when 1;");
        Check.due("all files", x.leans(0, 1), (1 << 19) - 1);
        Check.due("without lines", x.leans(0, 2), 0);
        Check.due("reader 4", x.leans(0, 4), -1);
        Check.due("reader -1", x.leans(0, -1), -1);
        Check.due("sitting 1", x.leans(1, 0), -1);
        Check.due("sitting -1", x.leans(-1, 0), -1);
    }

    /** Whether it hits if the true item is 1 and the jumps on line 0 are 20 - 2 * place, or what e says. */
    private static void hit(String plan, String e, int due) {
        PenThatJumps x = new PenThatJumps();
        x.item(1);
        x.person(0, 0, false, 0, false);
        Check.due("plan", Check.plan(x, 0, plan), 0);
        Check.due("body", Check.body(x, "line 0 = " + e + ";"), 0);
        x.sit(0, 0, 0);
        Check.due("hits of " + plan + " by " + e, x.hits(0, 0), due);
    }

    private static void hits() {
        hit("ask known 1; ask known 2;", "20 - place", 1);
        hit("ask known 2; ask known 1;", "20 - place", 0);
        hit("ask known 2; ask known 1;", "place", 1);
        hit("ask known 2; ask known 1;", "5", 0);
        hit("ask known 2; ask known 1; ask known 1;", "place", 1);
        hit("ask known 1; ask known 2; ask known 1;", "place", 1);
        hit("ask known 1; ask known 1; ask known 2;", "place", 0);
        hit("ask known 1; ask known 2; ask known 3;", "20 - place", 1);
        hit("ask known 2; ask known 1; ask known 3;", "(place = 1) + 2 * (place = 2)", 0);
        hit("ask known 1;", "9", 0);
        hit("ask known 2;", "9", 0);
        hit("ask known 1; ask plain; ask shaming;", "20 - place", 0);
        hit("ask known 1; ask plain; ask known 2;", "20 * plain + 9 * real + 8 * known", 1);
        hit("ask plain;", "9", 0);
        PenThatJumps x = new PenThatJumps();
        x.person(0, 0, false, 0, false);
        Check.plan(x, 0, "ask known 0; ask known 1;");
        Check.body(x, "line 2 = real;");
        x.sit(0, 0, 0);
        Check.due("line 2", x.hits(0, 2), 1);
        Check.due("line 0", x.hits(0, 0), 0);
        Check.due("line 3", x.hits(0, 3), -1);
        Check.due("line -1", x.hits(0, -1), -1);
        Check.due("sitting 1", x.hits(1, 0), -1);
        Check.due("sitting -1", x.hits(-1, 0), -1);
    }

    private static void rates() {
        PenThatJumps x = new PenThatJumps();
        Check.due("no plan", x.rates(0, 0, 0, 1, 1), -1);
        Check.plan(x, 0, "ask asked;");
        Check.body(x, "line 0 = fear + noise;");
        // Of fear 0 it says it if the noise is above 1 - file.
        Check.reader(x, 0, "says when 1 < asked 0 + file;");
        for (int what = 0; what < 4; what++) {
            Check.due("of nobody", x.rates(0, 0, 0, 40, what), 0);
        }
        x.person(0, 0, true, 0, false);
        x.person(4, 9, false, 0, false);
        x.person(5, 0, false, 0, false);
        int said = 0;
        int saidWithFile = 0;
        for (int seed = 0; seed < 40; seed++) {
            int noise = (int) ((seed * 1103515245L + 12345L) % 2147483648L / 65536 % 4);
            said += noise > 1 ? 1 : 0;
            saidWithFile += noise > 0 ? 1 : 0;
        }
        Check.due("said of doers", x.rates(0, 0, 0, 40, 0), said);
        Check.due("doers", x.rates(0, 0, 0, 40, 1), 40);
        Check.due("said of others", x.rates(0, 0, 0, 40, 2), said + 40);
        Check.due("others", x.rates(0, 0, 0, 40, 3), 80);
        Check.due("with a file", x.rates(0, 0, 1, 40, 0), saidWithFile);
        Check.due("one seed", x.rates(0, 0, 0, 1, 3), 2);
        Check.due("a reader without lines", x.rates(0, 1, 0, 7, 2), 0);
        Check.due("no sitting was kept", x.count(2), 0);
        int[][] wrong = {{1, 0, 0, 1, 0}, {-1, 0, 0, 1, 0}, {4, 0, 0, 1, 0}, {0, 4, 0, 1, 0}, {0, -1, 0, 1, 0},
            {0, 0, 10, 1, 0}, {0, 0, -10, 1, 0}, {0, 0, 0, 0, 0}, {0, 0, 0, 41, 0}, {0, 0, 0, -1, 0},
            {0, 0, 0, 1, 4}, {0, 0, 0, 1, -1}};
        for (int[] w : wrong) {
            Check.due("rates of what is not", x.rates(w[0], w[1], w[2], w[3], w[4]), -1);
        }
        x.item(2);
        Check.plan(x, 0, "ask known 2;");
        Check.body(x, "line 0 = heard;");
        Check.reader(x, 0, "says when real 0;");
        Check.due("by the true item", x.rates(0, 0, 0, 3, 0), 3);
        x.item(3);
        Check.due("of now", x.rates(0, 0, 0, 3, 0), 0);
    }

    private static void tricked() {
        PenThatJumps x = new PenThatJumps();
        Check.due("nobody", x.tricked(0, 0, 0, 1), -1);
        x.person(0, 3, true, 0, true);
        x.person(1, 3, true, 0, false);
        Check.due("no plan", x.tricked(0, 0, 0, 1), -1);
        Check.plan(x, 0, "ask plain; ask known 0;");
        Check.plan(x, 1, "ask known 0; ask asked;");
        Check.body(x, "line 0 = 2 * trick + noise; line 1 = 50 * done;");
        Check.reader(x, 0, "says when plain 0 < 3;");
        Check.reader(x, 2, "says when file = 0 and plain 0 < 2 and known 1 = 50;");
        int moved = 0;
        for (int seed = 0; seed < 40; seed++) {
            int noise = (int) ((seed * 1103515245L + 12345L) % 2147483648L / 65536 % 4);
            moved += noise < 3 != 2 + noise < 3 ? 1 : 0;
        }
        Check.due("of one who tricks", x.tricked(0, 0, 0, 40), moved);
        Check.due("of one who does not", x.tricked(1, 0, 0, 40), moved);
        Check.due("with file 0", x.tricked(0, 0, 2, 40) > 0, true);
        Check.reader(x, 3, "says when file = 1;");
        Check.due("with no other file", x.tricked(0, 0, 3, 40), 0);
        Check.reader(x, 3, "says when plain 0 < 2;");
        Check.due("one seed", x.tricked(0, 0, 3, 1), 1);
        Check.due("no plain question", x.tricked(0, 1, 0, 40), 0);
        Check.due("a reader without lines", x.tricked(0, 0, 1, 40), 0);
        Check.due("the person stays", x.sit(1, 0, 0), 0);
        Check.due("without a trick", x.jump(0, 0, 0) < 4, true);
        int[][] wrong = {{2, 0, 0, 1}, {-1, 0, 0, 1}, {8, 0, 0, 1}, {0, 2, 0, 1}, {0, -1, 0, 1}, {0, 4, 0, 1},
            {0, 0, 4, 1}, {0, 0, -1, 1}, {0, 0, 0, 0}, {0, 0, 0, 41}, {0, 0, 0, Integer.MIN_VALUE}};
        for (int[] w : wrong) {
            Check.due("tricked of what is not", x.tricked(w[0], w[1], w[2], w[3]), -1);
        }
    }
}
