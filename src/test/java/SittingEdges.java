import java.math.BigInteger;

/** The document's second part: sittings, draws, jumps, those who say it, rates and tricks, at their edges. */
final class SittingEdges {
    private static final String TWELVE = "ask plain;".repeat(12);

    private SittingEdges() {
    }

    static void all() {
        seeds();
        draws();
        jumps();
        full();
        keptAsTheyWere();
        said();
        leans();
        hits();
        rates();
        tricked();
    }

    private static PenThatJumps with(String plan, String body) {
        PenThatJumps x = new PenThatJumps();
        x.person(0, 5, true, 0, false);
        Check.due("plan of " + plan, Check.plan(x, 0, plan), 0);
        Check.due("body of " + body, Check.body(x, body), 0);
        return x;
    }

    /** The noise of a draw of a seed, the first being 0, by numbers without an end. */
    private static int noise(int seed, int draw) {
        BigInteger g = BigInteger.valueOf(seed);
        for (int i = 0; i <= draw; i++) {
            g = g.multiply(BigInteger.valueOf(1103515245)).add(BigInteger.valueOf(12345))
                    .mod(BigInteger.valueOf(2147483648L));
        }
        return g.divide(BigInteger.valueOf(65536)).mod(BigInteger.valueOf(4)).intValue();
    }

    private static void seeds() {
        Check.says("A SITTING of a PERSON by a PLAN with a SEED (0 to 9999):");
        PenThatJumps x = with("ask plain;", "line 0 = noise;");
        Check.rangeOf("seed", 0, 9999, v -> x.sit(0, 0, v));
        Check.due("two were taken", x.count(2), 2);
    }

    private static void draws() {
        int[] some = {0, 1, 2, 3, 9998, 9999};
        int[] seen = new int[4];
        Check.says("g is SEED at first; for each QUESTION, for each LINE 0 to 2,");
        PenThatJumps x = with(TWELVE, "line 0 = noise + 1; line 1 = noise + 1; line 2 = noise + 1;");
        for (int seed : some) {
            int sitting = x.sit(0, 0, seed);
            for (int draw = 0; draw < 36; draw++) {
                int due = noise(seed, draw);
                seen[due]++;
                Check.due("seed " + seed + ", draw " + draw, x.jump(sitting, draw / 3, draw % 3), due + 1);
            }
        }
        Check.says("g becomes (g * 1103515245 + 12345) modulo 2147483648, and noise is g / 65536, cut, modulo 4:");
        // By hand: seed 0 gives g = 12345, and 12345 / 65536 is 0; seed 1 gives 1103527590, and 16838 modulo 4 is 2.
        Check.due("first draw of seed 0", x.jump(0, 0, 0), 1);
        Check.due("first draw of seed 1", x.jump(1, 0, 0), 3);
        for (int noise = 0; noise < 4; noise++) {
            Check.due("noise " + noise + " was drawn", seen[noise] > 0, true);
        }
        // A line that is not told has its draw, too.
        PenThatJumps y = with("ask plain; ask asked;", "line 2 = noise + 1;");
        for (int seed = 0; seed < 24; seed++) {
            int sitting = y.sit(0, 0, seed);
            Check.due("line 2 alone", y.jump(sitting, 0, 2), noise(seed, 2) + 1);
            Check.due("line 2 alone, then", y.jump(sitting, 1, 2), noise(seed, 5) + 1);
            Check.due("line 1", y.jump(sitting, 1, 1), 0);
        }
    }

    private static void jumps() {
        Check.says("the JUMP is the line's E, 0 if it is below, 99 if it is above.");
        String[] all = {"0", "0 - 1", "1", "98", "99", "100", "101", "9999", "2048 * 1024 * 1024",
            "2048 * 1024 * 1024 - 1", "0 - 9999", "99 + 1 - 1", "256", "0 - 256", "99 + 256"};
        int[] due = {0, 0, 1, 98, 99, 99, 99, 99, 0, 99, 0, 99, 99, 0, 99};
        for (int i = 0; i < all.length; i++) {
            for (int line = 0; line < 3; line++) {
                PenThatJumps x = with("ask plain; ask known 8;", "line " + line + " = " + all[i] + ";");
                x.sit(0, 0, 9999);
                Check.due(all[i] + " on line " + line, x.jump(0, 0, line), due[i]);
                Check.due(all[i] + " on line " + line + ", then", x.jump(0, 1, line), due[i]);
            }
        }
    }

    private static void full() {
        Check.says("SITTINGS, 24 at most,");
        PenThatJumps x = with("ask plain;", "line 0 = place + noise; line 1 = fear;");
        for (int i = 0; i < 24; i++) {
            x.person(0, i % 10, true, 0, false);
            Check.due("sitting " + i, x.sit(0, 0, i), i);
            Check.due("so many", x.count(2), i + 1);
        }
        Check.due("a 25th", x.sit(0, 0, 0), -1);
        Check.due("a 26th", x.sit(0, 0, 0), -1);
        Check.due("24 are all", x.count(2), 24);
        for (int i = 0; i < 24; i++) {
            Check.due("sitting " + i + " is as it was", x.jump(i, 0, 0), noise(i, 0));
            Check.due("of him as he was then", x.jump(i, 0, 1), i % 10);
        }
        Check.none("no sitting 24", () -> x.jump(24, 0, 0));
        Check.due("the last one is there", x.leans(23, 0), 0);
        Check.due("and none behind it", x.leans(24, 0), -1);
    }

    private static void keptAsTheyWere() {
        Check.says("are kept as they are then (JUMPS, QUESTIONS, the TRUE ITEM).");
        PenThatJumps x = with("ask known 0; ask known 1; ask plain;", "line 0 = 9 * real + known + 2 * plain;");
        Check.reader(x, 0, "says when known 0 = 11 and plain 0 = 2 and real 0 = 10 and others 0 = 1 and asks = 3;");
        x.sit(0, 0, 0);
        int[] jumps = {10, 1, 2};
        for (int step = 0; step < 6; step++) {
            if (step == 1) {
                x.item(1);
            } else if (step == 2) {
                Check.plan(x, 0, "ask asked;");
            } else if (step == 3) {
                Check.body(x, "line 0 = 50; line 1 = 50;");
            } else if (step == 4) {
                x.person(0, 0, false, 511, true);
            } else if (step == 5) {
                x.sit(0, 0, 0);
            }
            for (int question = 0; question < 3; question++) {
                Check.due("jump at " + question, x.jump(0, question, 0), jumps[question]);
                Check.due("jump of line 1", x.jump(0, question, 1), 0);
            }
            Check.due("hits", x.hits(0, 0), 1);
            Check.due("says", x.says(0, 0, 0), 1);
        }
        Check.due("the new one", x.jump(1, 0, 1), 50);
        Check.none("has its own questions", () -> x.jump(1, 1, 0));
    }

    private static void said() {
        Check.says("A READER SAYS it of a SITTING with a FILE (-9 to 9) if one of its lines' E is not 0 (without any: not).");
        PenThatJumps x = with("ask plain;", "line 0 = 7;");
        x.sit(0, 0, 0);
        Check.rangeOf("file", -9, 9, v -> x.says(0, 0, v));
        Check.due("without any", x.says(0, 0, 0), 0);
        String[] readers = {"says when 0;", "says when 1;", "says when 9999;", "says when 0 - 1;",
            "says when 2048 * 1024 * 1024;", "says when 4096 * 1024 * 1024;", "says when 0; says when 0;",
            "says when 0; says when 1;", "says when 1; says when 0;", "says when 1; says when 0 - 1;",
            "says when 0; says when 0; says when 0; says when 0; says when 0; says when 7;",
            "says when 7 - plain 0;", "says when 6 - plain 0;", ""};
        int[] due = {0, 1, 1, 1, 1, 0, 0, 1, 1, 1, 1, 0, 1, 0};
        for (int i = 0; i < readers.length; i++) {
            Check.due("reader of " + readers[i], Check.reader(x, 2, readers[i]), 0);
            Check.due(readers[i], x.says(0, 2, 0), due[i]);
        }
        Check.due("the others are without any", x.says(0, 3, 9), 0);
    }

    private static void leans() {
        Check.says("LEANS: the FILES with which it SAYS it, as bits (-9 lowest).");
        PenThatJumps x = with("ask plain;", "line 0 = 7;");
        x.sit(0, 0, 0);
        Check.due("without any", x.leans(0, 0), 0);
        for (int file = -9; file <= 9; file++) {
            Check.reader(x, 0, "says when file + 9 = " + (file + 9) + ";");
            Check.due("file " + file, x.leans(0, 0), 1 << file + 9);
        }
        Check.reader(x, 0, "says when 1;");
        Check.due("all", x.leans(0, 0), 524287);
        Check.reader(x, 0, "says when 0;");
        Check.due("none", x.leans(0, 0), 0);
        Check.reader(x, 0, "says when file;");
        Check.due("all but 0", x.leans(0, 0), 524287 - 512);
        Check.reader(x, 0, "says when file = 10; says when file = 0 - 10;");
        Check.due("none beyond 9", x.leans(0, 0), 0);
        Check.reader(x, 0, "says when file = 9; says when file = 0 - 9;");
        Check.due("both ends", x.leans(0, 0), 1 << 18 | 1);
        Check.reader(x, 0, "says when 7 < plain 0 + file;");
        int bits = 0;
        for (int file = -9; file <= 9; file++) {
            bits |= x.says(0, 0, file) << file + 9;
        }
        Check.due("as each says", x.leans(0, 0), bits);
    }

    /** Whether it hits on line 1 with the true item 4, by jumps that are told one after the other. */
    private static void hit(String items, String jumps, int due) {
        StringBuilder plan = new StringBuilder();
        StringBuilder body = new StringBuilder("line 1 = 0");
        String[] told = jumps.split(" ");
        int place = 0;
        for (String item : items.split(" ")) {
            boolean known = Character.isDigit(item.charAt(0));
            plan.append("ask ").append(known ? "known " : "").append(item).append(';');
            body.append(" + ").append(told[place]).append(" * (place = ").append(place).append(")");
            place++;
        }
        PenThatJumps x = with(plan.toString(), body + ";");
        x.item(4);
        x.sit(0, 0, 0);
        Check.due("hits of " + items + " by " + jumps, x.hits(0, 1), due);
        Check.due("no hit on a line that does not jump", x.hits(0, 0), 0);
    }

    private static void hits() {
        Check.says("HITS of a SITTING on a LINE: 1 if some QUESTION of the TRUE ITEM was asked,");
        hit("5", "9", 0);
        hit("5 6", "9 0", 0);
        hit("plain 5", "9 0", 0);
        hit("4 5", "1 0", 1);
        hit("5 4", "0 1", 1);
        Check.says("and some of another one,");
        hit("4", "99", 0);
        hit("4 4", "99 98", 0);
        hit("4 plain", "99 0", 0);
        hit("4 shaming asked plain", "99 0 0 0", 0);
        hit("4 0", "99 0", 1);
        hit("4 8", "99 0", 1);
        Check.says("and each JUMP at such another one is below the greatest of the first; else 0.");
        hit("4 5", "7 6", 1);
        hit("4 5", "7 7", 0);
        hit("4 5", "6 7", 0);
        hit("4 5", "0 0", 0);
        hit("4 5", "99 99", 0);
        hit("4 5", "100 99", 0);
        hit("4 5", "99 98", 1);
        hit("4 5 6", "7 6 7", 0);
        hit("4 5 6", "7 7 6", 0);
        hit("4 5 6", "7 6 6", 1);
        hit("4 4 5", "7 5 6", 1);
        hit("4 5 4", "5 6 7", 1);
        hit("4 5 4", "5 7 7", 0);
        hit("5 4 6 4 0", "6 1 6 7 6", 1);
        hit("4 plain 5 asked", "7 99 6 99", 1);
        hit("5 6 7 8 0 1 2 3 5 6 7 4", "6 6 6 6 6 6 6 6 6 6 6 7", 1);
        hit("5 6 7 8 0 1 2 3 5 6 7 4", "6 6 6 6 6 6 6 6 6 6 7 7", 0);
    }

    private static void rates() {
        Check.says("RATES of a PLAN, a READER, a FILE, with so many SEEDS (0 up to it, without that one; 1 to 40):");
        PenThatJumps x = with("ask plain; ask asked;", "line 0 = noise;");
        Check.reader(x, 1, "says when 2 < asked 0 + plain 0 + file;");
        Check.rangeOf("seeds", 1, 40, v -> x.rates(0, 1, 0, v, 0));
        for (int file = -1; file <= 1; file++) {
            int said = 0;
            for (int seed = 0; seed < 40; seed++) {
                said += noise(seed, 0) + noise(seed, 3) + file > 2 ? 1 : 0;
                Check.due("seeds below " + (seed + 1), x.rates(0, 1, file, seed + 1, 0), said);
            }
        }
        PenThatJumps w = with("ask plain;", "line 0 = noise;");
        Check.reader(w, 1, "says when plain 0;");
        int before = 0;
        for (int seed = 0; seed < 24; seed++) {
            int now = w.rates(0, 1, 0, seed + 1, 0);
            Check.due("as a sitting with it", now - before, w.says(w.sit(0, 0, seed), 1, 0));
            before = now;
        }
        Check.says("of all SITTINGS of all PERSONS told with each of these SEEDS:");
        PenThatJumps y = new PenThatJumps();
        Check.plan(y, 0, "ask plain;");
        Check.reader(y, 0, "says when 1;");
        for (int what = 0; what < 4; what++) {
            Check.due("of nobody", y.rates(0, 0, 0, 40, what), 0);
        }
        for (int person = 0; person < 8; person++) {
            y.person(person, 0, person % 3 == 0, 0, false);
            int doers = person / 3 + 1;
            Check.due("doers", y.rates(0, 0, 0, 40, 1), 40 * doers);
            Check.due("others", y.rates(0, 0, 0, 40, 3), 40 * (person + 1 - doers));
        }
        y.sit(0, 0, 0);
        Check.due("sittings that are kept do not count", y.rates(0, 0, 0, 1, 1), 3);
        saidOfEach();
    }

    private static void saidOfEach() {
        Check.says("how many it SAYS of those who have DONE it, how many these are, likewise of those who have not.");
        for (int doers = 0; doers <= 8; doers++) {
            PenThatJumps x = new PenThatJumps();
            Check.plan(x, 0, "ask plain;");
            Check.body(x, "line 0 = fear;");
            Check.reader(x, 0, "says when plain 0 < 5;");
            int[] due = new int[4];
            for (int person = 0; person < 8; person++) {
                boolean done = person < doers;
                x.person(person, person + 1, done, 0, false);
                due[done ? 0 : 2] += person + 1 < 5 ? 7 : 0;
                due[done ? 1 : 3] += 7;
            }
            for (int what = 0; what < 4; what++) {
                Check.due(doers + " doers, what " + what, x.rates(0, 0, 0, 7, what), due[what]);
                Check.due("a reader without lines", x.rates(0, 1, 0, 7, what), what % 2 == 0 ? 0 : due[what]);
            }
        }
    }

    private static void tricked() {
        Check.says("TRICKED: with how many of these SEEDS the READER (FILE 0) SAYS otherwise of a PERSON as he would"
                + " if he TRICKED or as if he did not.");
        PenThatJumps x = with("ask plain; ask asked;", "line 0 = 2 * trick + noise; line 1 = 9 * trick;");
        x.person(1, 5, true, 0, true);
        Check.reader(x, 0, "says when plain 0 < 3;");
        Check.reader(x, 1, "says when plain 0 + file < 3;");
        Check.reader(x, 2, "says when plain 1 and file;");
        Check.rangeOf("seeds", 1, 40, v -> x.tricked(0, 0, 0, v));
        int moved = 0;
        for (int seed = 0; seed < 40; seed++) {
            int noise = noise(seed, 0);
            moved += noise < 3 != noise + 2 < 3 ? 1 : 0;
            Check.due("of one who does not", x.tricked(0, 0, 0, seed + 1), moved);
            Check.due("of one who does", x.tricked(1, 0, 0, seed + 1), moved);
            Check.due("with file 0", x.tricked(1, 0, 1, seed + 1), moved);
        }
        Check.due("with no other file", x.tricked(0, 0, 2, 40), 0);
        Check.due("a reader without lines", x.tricked(0, 0, 3, 40), 0);
        Check.reader(x, 3, "says when plain 1;");
        Check.due("each time", x.tricked(0, 0, 3, 40), 40);
        Check.due("of one seed", x.tricked(1, 0, 3, 1), 1);
        Check.reader(x, 3, "says when asked 1;");
        Check.due("at no other kind", x.tricked(0, 0, 3, 40), 0);
        Check.plan(x, 1, "ask shaming; ask asked; ask known 0;");
        Check.reader(x, 3, "says when 0 < asked 1 + shaming 1 + known 1;");
        Check.due("without a plain question", x.tricked(1, 1, 3, 40), 0);
        PenThatJumps y = with("ask plain;", "line 0 = trick; line 1 = trick; line 2 = trick;");
        Check.reader(y, 0, "says when plain 0; says when plain 1; says when plain 2;");
        Check.due("each time and no more", y.tricked(0, 0, 0, 40), 40);
        Check.due("one time and no more", y.tricked(0, 0, 0, 1), 1);
    }
}
