/** The promises one after the other: what they refuse, and what a refused call and a question leave as it was. */
final class PromiseEdges {
    private static final int NONE = PenThatJumps.NONE;

    private PromiseEdges() {
    }

    static void all() {
        constants();
        newObject();
        person();
        item();
        feedOrder();
        feedLeftOut();
        plan();
        body();
        reader();
        question();
        sit();
        jump();
        says();
        leans();
        hits();
        rates();
        tricked();
        apart();
        same();
        best();
        odds();
        items();
        named();
        confess();
        worth();
        paper();
        lean();
        mark();
        count();
    }

    private static void constants() {
        Check.says("The constants: `NONE = -1`: None.");
        Check.due("NONE", PenThatJumps.NONE, -1);
    }

    private static void newObject() {
        Check.says("Nobody, no PLAN, an empty BODY, READERS without lines.");
        PenThatJumps x = new PenThatJumps();
        for (int what = 0; what <= 7; what++) {
            Check.due("count " + what, x.count(what), 0);
        }
        for (int i = 0; i < 4; i++) {
            Check.due("no plan " + i, x.question(i, 0, 0), NONE);
            Check.due("no plan to be same by", x.same(i, 0), NONE);
            Check.due("nothing on a mark", x.mark(i, true), false);
        }
        Check.due("no sitting", x.says(0, 0, 0), NONE);
        Check.none("no jump", () -> x.jump(0, 0, 0));
        for (int whom = 0; whom < 3; whom++) {
            int of = whom;
            Check.none("no worth", () -> x.worth(of, 0));
        }
        Check.none("no lean", () -> x.lean(1));
        Check.plan(x, 0, "ask plain; ask known 0;");
        for (int person = 0; person < 8; person++) {
            Check.due("nobody", x.sit(person, 0, 0), NONE);
            Check.due("nobody who tricks", x.tricked(person, 0, 0, 1), NONE);
        }
        x.person(0, 9, true, 511, true);
        x.sit(0, 0, 9999);
        for (int line = 0; line < 3; line++) {
            Check.due("an empty body", x.jump(0, 0, line) + x.jump(0, 1, line), 0);
        }
        for (int reader = 0; reader < 4; reader++) {
            Check.due("a reader without lines", x.leans(0, reader), 0);
        }
        Check.due("the empty body tells nobody apart", x.same(0, 0), 1023);
        Portrait.of(Portrait.rich());
        PenThatJumps y = new PenThatJumps();
        for (int what = 0; what <= 7; what++) {
            Check.due("objects share nothing: count " + what, y.count(what), 0);
        }
    }

    private static void person() {
        Check.says("A PERSON (in place of what was told): true; false: others.");
        int[][] wrong = {{-1, 0, 0}, {8, 0, 0}, {0, -1, 0}, {0, 10, 0}, {0, 0, -1}, {0, 0, 512}, {2, 10, 0},
            {Integer.MIN_VALUE, 0, 0}, {Integer.MAX_VALUE, 0, 0}, {1, 0, Integer.MIN_VALUE}, {6, 11, 513}};
        for (int[] w : wrong) {
            Portrait.keeps("person " + w[0] + " of fear " + w[1] + " who heard " + w[2],
                    x -> Check.bit(x.person(w[0], w[1], false, w[2], false)), 0);
        }
        PenThatJumps x = new PenThatJumps();
        Check.plan(x, 0, "ask plain; ask known 1;");
        Check.body(x, "line 0 = fear; line 1 = 10 * done + trick; line 2 = heard;");
        Check.due("told", x.person(7, 9, true, 2, true), true);
        Check.due("in place of that", x.person(7, 0, false, 0, false), true);
        x.sit(7, 0, 0);
        Check.due("fear", x.jump(0, 0, 0), 0);
        Check.due("done and trick", x.jump(0, 0, 1), 0);
        Check.due("heard", x.jump(0, 1, 2), 0);
        Check.due("one person", x.count(0), 1);
        Check.due("who has not done it", x.count(3), 0);
        Check.due("told again", x.person(7, 9, true, 2, true), true);
        x.sit(7, 0, 0);
        Check.due("fear", x.jump(1, 0, 0), 9);
        Check.due("done and trick", x.jump(1, 0, 1), 11);
        Check.due("heard", x.jump(1, 1, 2), 1);
        Check.due("one person", x.count(0), 1);
        Check.due("who has done it", x.count(3), 1);
    }

    private static void item() {
        Check.says("The TRUE ITEM: true; false: none such.");
        Check.range("item", 0, 8, v -> new PenThatJumps().item(v));
        for (int wrong : new int[] {-1, 9, Integer.MIN_VALUE, Integer.MAX_VALUE, 256}) {
            Portrait.keeps("item " + wrong, x -> Check.bit(x.item(wrong)), 0);
        }
        PenThatJumps x = Portrait.rich();
        Check.due("told once more", x.item(5), true);
        Check.due("it is the same", Portrait.of(x), Portrait.of(Portrait.rich()));
    }

    private static void feedOrder() {
        Check.says("Up to 24 signs come behind the TAPE: the bytes of a, b, c, of each the highest first;");
        PenThatJumps x = new PenThatJumps();
        Check.due("no signs", x.feed(0, 0, 0), 0);
        Check.due("24 signs", Check.feed(x, "ask plain;ask asked for "), 24);
        Check.due("behind them", Check.feed(x, "2;ask known 3;ask shamin"), 48);
        Check.due("no signs more", x.feed(0, 0, 0), 48);
        Check.due("one sign", x.feed(0, 0, 'g'), 49);
        Check.due("two signs", x.feed((long) ' ' << 56, 0, ';'), 51);
        Check.due("plan", x.plan(0), 0);
        int[][] due = {{0, -1, 1}, {2, -1, 2}, {3, 3, 1}, {1, -1, 1}};
        for (int i = 0; i < due.length; i++) {
            for (int what = 0; what < 3; what++) {
                Check.due("question " + i + ", what " + what, x.question(0, i, what), due[i][what]);
            }
        }
        // A wrong sign at each of the 24 places, blanks ahead of it.
        for (int place = 0; place < 24; place++) {
            String text = " ".repeat(place) + "#" + " ".repeat(23 - place);
            Check.due("24 signs", Check.feed(x, text), 24);
            Check.due("the sign at " + place, x.body(), 1 + 16 * place);
        }
    }

    private static void feedLeftOut() {
        Check.says("others than 10 and 32 .. 126, and what is beyond 1,000, are left out: how many there are.");
        PenThatJumps x = new PenThatJumps();
        Check.due("none of these", x.feed(-1L, 0x80_8A_A0_FE_FF_7F_1F_0BL, 0x09_00_01_1F_7F_80_C1_E1L), 0);
        Check.due("some of these", x.feed(0x6C_00_69_FF_6E_80_65_09L, 0x1F_20_7F_30_00_3D_00_31L, 0x8A_3B_00L), 9);
        Check.due("the others stand side by side", x.body(), 0);
        Check.due("a line", x.count(7), 1);
        Check.feed(x, " ".repeat(984));
        Check.due("984 signs", x.count(6), 984);
        Check.due("those left out take no room", x.feed(-1L, 0, 0x2020202020202020L), 992);
        Check.due("these neither", x.feed(0x20_00_20_00_20_00_20_00L, 0x20_FF_20_FF_20_09L, 0), 999);
        Check.due("one is the last", x.feed(0x00_00_00_00_00_00_00_23L, 0x2424242424242424L, 0x2323232323232323L), 1000);
        Check.due("nothing more", x.feed(0x2323232323232323L, -1, 0), 1000);
        Check.due("the last one alone came", x.plan(0), 1 + 16 * 999);
        Check.due("empty again", x.feed(0, 0, 0), 0);
        PenThatJumps y = new PenThatJumps();
        Check.feed(y, "line 0 = 7;" + " ".repeat(988) + "x");
        Check.due("full", y.count(6), 1000);
        Check.feed(y, "line 0 = 8;");
        Check.due("what was there, stays", y.body(), 1 + 16 * 999);
        Portrait.leaves("feed of nothing", z -> z.feed(0, -1, 0x7F1F0B0900FFFEL));
        PenThatJumps w = Portrait.rich();
        Check.due("signs come behind those there are", Check.feed(w, "  "), Portrait.TAPE.length() + 2);
    }

    private static void plan() {
        Check.says("The TAPE is read as a PLAN: 0; its FAULT (it stays as it was); -1: no such number (the TAPE is empty).");
        for (int wrong : new int[] {-1, 4, Integer.MIN_VALUE, Integer.MAX_VALUE, 256}) {
            Portrait.takesTape("plan " + wrong, "ask plain;", x -> x.plan(wrong), -1);
            Portrait.takesTape("plan " + wrong + " of a wrong text", "ask plain", x -> x.plan(wrong), -1);
            Portrait.takesTape("plan " + wrong + " of nothing", "", x -> x.plan(wrong), -1);
        }
        String[] texts = {"", " ", "x", "ask", "ask plain", "ask plain;;", "ask plain; ask shaming; ask known 9;",
            "ask asked for 9; ask asked for 10;", "ask known 8;".repeat(13), "ask known 8;".repeat(12) + ";"};
        int[] due = {1, 1 + 16, 1, 1 + 16 * 3, 1 + 16 * 9, 1 + 16 * 10, 4 + 16 * 34, 4 + 16 * 31, 5 + 16 * 144,
            1 + 16 * 144};
        for (int i = 0; i < texts.length; i++) {
            for (int number = 0; number < 4; number++) {
                int of = number;
                Portrait.takesTape("plan " + of + " of " + texts[i], texts[i], x -> x.plan(of), due[i]);
            }
        }
        PenThatJumps x = Portrait.rich();
        x.plan(-1);
        Check.due("read", Check.plan(x, 3, "ask asked for 2;"), 0);
        Check.due("it is told", x.count(1), 3);
        Check.due("the tape is empty", x.count(6), 0);
    }

    private static void body() {
        Check.says("The TAPE is read as the BODY: 0, or its FAULT (likewise).");
        String[] texts = {"x", "line", "line 0 = 1", "line 0 = 1; line 1 = 2; line 2 = 3; line 2 = 4;",
            "line 2 = 0; line 3 = 1;", "line 0 = 7; line 1 = (((((1)))));", "line 0 = 7; line 1 = ;", "line 0 = 7;#",
            "ask plain;", "line 0 = 7; line 0 = 8;"};
        int[] due = {1, 1 + 16 * 4, 1 + 16 * 10, 3 + 16 * 41, 4 + 16 * 17, 5 + 16 * 26, 1 + 16 * 21, 1 + 16 * 11, 1,
            3 + 16 * 17};
        for (int i = 0; i < texts.length; i++) {
            Portrait.takesTape("body of " + texts[i], texts[i], x -> x.body(), due[i]);
        }
        PenThatJumps x = Portrait.rich();
        Check.due("read", x.body(), 0);
        Check.due("these are its lines", x.count(7), 2);
        Check.due("the tape is empty", x.count(6), 0);
        Check.due("nothing is read", x.body(), 0);
        Check.due("an empty body", x.count(7), 0);
    }

    private static void reader() {
        Check.says("The TAPE is read as a READER: as of plan().");
        for (int wrong : new int[] {-1, 4, Integer.MIN_VALUE, Integer.MAX_VALUE, 256}) {
            Portrait.takesTape("reader " + wrong, "says when 1;", x -> x.reader(wrong), -1);
            Portrait.takesTape("reader " + wrong + " of a wrong text", "says", x -> x.reader(wrong), -1);
            Portrait.takesTape("reader " + wrong + " of nothing", "", x -> x.reader(wrong), -1);
        }
        String[] texts = {"x", "says", "says when 1", "says when 1; says when 1; says when plain;",
            "says when 1; says when real 3;", "says when 1;".repeat(7), "says when 1; says when not not not not not 1;",
            "says when 1;#", "line 0 = 1;"};
        int[] due = {1, 1 + 16 * 4, 1 + 16 * 11, 1 + 16 * 41, 4 + 16 * 28, 5 + 16 * 72, 5 + 16 * 43, 1 + 16 * 12, 1};
        for (int i = 0; i < texts.length; i++) {
            for (int number = 0; number < 4; number++) {
                int of = number;
                Portrait.takesTape("reader " + of + " of " + texts[i], texts[i], x -> x.reader(of), due[i]);
            }
        }
        PenThatJumps x = Portrait.rich();
        x.reader(-1);
        Check.due("read", Check.reader(x, 2, "says when 1;"), 0);
        Check.due("it says it", x.says(0, 2, 0), 1);
        Check.due("the tape is empty", x.count(6), 0);
        Check.due("nothing is read", x.reader(2), 0);
        Check.due("a reader without lines", x.says(0, 2, 0), 0);
    }

    private static void question() {
        Check.says("Of a QUESTION of a PLAN, what 0: KIND (0 plain, 1 shaming, 2 asked, 3 known), 1: ITEM (NONE: none),"
                + " 2: MINUTES; NONE: none such.");
        PenThatJumps x = new PenThatJumps();
        Check.plan(x, 0, "ask plain for 1; ask shaming; ask asked for 9; ask known 0; ask known 8 for 2;");
        int[][] due = {{0, NONE, 1}, {1, NONE, 1}, {2, NONE, 9}, {3, 0, 1}, {3, 8, 2}};
        for (int i = 0; i < due.length; i++) {
            for (int what = 0; what < 3; what++) {
                Check.due("question " + i + ", what " + what, x.question(0, i, what), due[i][what]);
            }
        }
        Check.rangeOf("what", 0, 2, v -> x.question(0, 3, v));
        for (int what = 0; what <= 2; what += 2) {
            int of = what;
            Check.rangeOf("question, what " + what, 0, 4, v -> x.question(0, v, of));
        }
        Check.due("no item of a question that is not", x.question(0, 5, 1), NONE);
        Check.plan(x, 3, "ask plain;".repeat(12));
        Check.rangeOf("question of twelve", 0, 11, v -> x.question(3, v, 0));
        for (int plan : new int[] {-1, 1, 2, 4, Integer.MIN_VALUE, Integer.MAX_VALUE}) {
            Check.due("plan " + plan, x.question(plan, 0, 0), NONE);
        }
        Portrait.leaves("question", y -> y.question(0, 1, 1));
        Portrait.keeps("question of no plan", y -> y.question(1, 0, 0), NONE);
        Portrait.keeps("no question", y -> y.question(0, 4, 0), NONE);
        Portrait.keeps("no what", y -> y.question(0, 0, 3), NONE);
    }

    private static void sit() {
        Check.says("A SITTING: its number; NONE: no such PERSON, PLAN told, SEED, 24 are there.");
        int[][] wrong = {{-1, 0, 0}, {8, 0, 0}, {2, 0, 0}, {0, -1, 0}, {0, 4, 0}, {0, 1, 0}, {0, 0, -1}, {0, 0, 10000},
            {Integer.MIN_VALUE, 0, 0}, {0, Integer.MAX_VALUE, 0}, {0, 0, Integer.MIN_VALUE}, {0, 0, Integer.MAX_VALUE}};
        for (int[] w : wrong) {
            Portrait.keeps("sit " + w[0] + " " + w[1] + " " + w[2], x -> x.sit(w[0], w[1], w[2]), NONE);
        }
        PenThatJumps x = Portrait.rich();
        for (int i = 3; i < 24; i++) {
            Check.due("its number", x.sit(6, 2, i), i);
        }
        Check.due("24 are there", x.sit(0, 0, 0), NONE);
        PenThatJumps y = Portrait.rich();
        for (int i = 3; i < 24; i++) {
            y.sit(6, 2, i);
        }
        Check.due("the 25th leaves all as it was", Portrait.of(x), Portrait.of(y));
    }

    private static void jump() {
        Check.says("A JUMP of a SITTING. NoSuchElementException: no such SITTING, QUESTION, LINE.");
        PenThatJumps x = Portrait.rich();
        Check.rangeThrown("sitting", 0, 2, v -> x.jump(v, 0, 0));
        Check.rangeThrown("question", 0, 3, v -> x.jump(0, v, 0));
        Check.rangeThrown("question of another", 0, 1, v -> x.jump(1, v, 0));
        Check.rangeThrown("line", 0, 2, v -> x.jump(0, 3, v));
        Portrait.leaves("jump", y -> y.jump(0, 1, 0));
        Portrait.keepsThrown("no sitting", y -> y.jump(3, 0, 0));
        Portrait.keepsThrown("no question", y -> y.jump(0, 4, 0));
        Portrait.keepsThrown("no line", y -> y.jump(0, 0, 3));
    }

    private static void says() {
        Check.says("Whether a READER SAYS it: 1 or 0; NONE: no such SITTING, READER, FILE.");
        PenThatJumps x = Portrait.rich();
        Check.rangeOf("sitting", 0, 2, v -> x.says(v, 0, 0));
        Check.rangeOf("reader", 0, 3, v -> x.says(0, v, 0));
        Check.rangeOf("file", -9, 9, v -> x.says(0, 0, v));
        Portrait.keeps("it says it", y -> y.says(0, 0, 0), 1);
        Portrait.keeps("it does not", y -> y.says(0, 2, 0), 0);
        Portrait.keeps("no sitting", y -> y.says(3, 0, 0), NONE);
        Portrait.keeps("no reader", y -> y.says(0, 4, 0), NONE);
        Portrait.keeps("no file", y -> y.says(0, 0, 10), NONE);
        Portrait.keeps("no such file", y -> y.says(0, 0, -10), NONE);
    }

    private static void leans() {
        Check.says("LEANS; NONE: no such SITTING, READER.");
        PenThatJumps x = Portrait.rich();
        Check.rangeOf("sitting", 0, 2, v -> x.leans(v, 0));
        Check.rangeOf("reader", 0, 3, v -> x.leans(0, v));
        Portrait.keeps("with one file", y -> y.leans(0, 1), 1);
        Portrait.keeps("with no file", y -> y.leans(0, 2), 0);
        Portrait.keeps("no sitting", y -> y.leans(3, 0), NONE);
        Portrait.keeps("no reader", y -> y.leans(0, 4), NONE);
    }

    private static void hits() {
        Check.says("HITS; NONE: no such SITTING, LINE.");
        PenThatJumps x = Portrait.rich();
        Check.rangeOf("sitting", 0, 2, v -> x.hits(v, 0));
        Check.rangeOf("line", 0, 2, v -> x.hits(0, v));
        Portrait.keeps("it hits", y -> y.hits(0, 0), 1);
        Portrait.keeps("it does not", y -> y.hits(0, 2), 0);
        Portrait.keeps("no sitting", y -> y.hits(3, 0), NONE);
        Portrait.keeps("no line", y -> y.hits(0, 3), NONE);
    }

    private static void rates() {
        Check.says("RATES, what 0: SAID of those who have DONE it, 1: these, 2: SAID of others, 3: these;"
                + " NONE: no such PLAN told, READER, FILE, SEEDS, what.");
        PenThatJumps x = Portrait.rich();
        Check.rangeOf("reader", 0, 3, v -> x.rates(0, v, 0, 1, 0));
        Check.rangeOf("file", -9, 9, v -> x.rates(0, 0, v, 1, 0));
        Check.rangeOf("seeds", 1, 40, v -> x.rates(0, 0, 0, v, 0));
        Check.rangeOf("what", 0, 3, v -> x.rates(0, 0, 0, 1, v));
        // Persons 0 and 6 have done it, 1 and 6 trick.
        x.reader(-1);
        Check.reader(x, 2, "says when plain 1 = 60 and plain 2 = 0;");
        int[] due = {0, 10, 5, 5};
        for (int what = 0; what < 4; what++) {
            int of = what;
            Check.due("what " + what, x.rates(0, 2, 0, 5, what), due[what]);
            Portrait.leaves("rates, what " + what, y -> y.rates(0, 3, 9, 40, of));
        }
        int[][] wrong = {{1, 0, 0, 1, 0}, {-1, 0, 0, 1, 0}, {3, 0, 0, 1, 0}, {4, 0, 0, 1, 0}, {0, 4, 0, 1, 0},
            {0, -1, 0, 1, 0}, {0, 0, 10, 1, 0}, {0, 0, -10, 1, 0}, {0, 0, 0, 0, 0}, {0, 0, 0, 41, 0}, {0, 0, 0, 1, 4},
            {0, 0, 0, 1, -1}, {Integer.MIN_VALUE, 0, 0, 1, 0}, {Integer.MAX_VALUE, 0, 0, 1, 0}};
        for (int[] w : wrong) {
            Portrait.keeps("rates " + w[0] + " " + w[1] + " " + w[2] + " " + w[3] + " " + w[4],
                    y -> y.rates(w[0], w[1], w[2], w[3], w[4]), NONE);
        }
    }

    private static void tricked() {
        Check.says("TRICKED; NONE: no such PERSON, PLAN told, READER, SEEDS.");
        PenThatJumps x = Portrait.rich();
        Check.rangeOf("reader", 0, 3, v -> x.tricked(0, 0, v, 1));
        Check.rangeOf("seeds", 1, 40, v -> x.tricked(0, 0, 0, v));
        for (int person = -1; person <= 8; person++) {
            boolean told = person == 0 || person == 1 || person == 6;
            Check.due("person " + person, x.tricked(person, 0, 0, 1) != NONE, told);
        }
        Portrait.leaves("tricked of one who does", y -> y.tricked(6, 0, 1, 40));
        Portrait.leaves("tricked of one who does not", y -> y.tricked(0, 0, 1, 40));
        int[][] wrong = {{2, 0, 0, 1}, {7, 0, 0, 1}, {-1, 0, 0, 1}, {8, 0, 0, 1}, {0, 1, 0, 1}, {0, 3, 0, 1},
            {0, -1, 0, 1}, {0, 4, 0, 1}, {0, 0, 4, 1}, {0, 0, -1, 1}, {0, 0, 0, 0}, {0, 0, 0, 41}};
        for (int[] w : wrong) {
            Portrait.keeps("tricked " + w[0] + " " + w[1] + " " + w[2] + " " + w[3],
                    y -> y.tricked(w[0], w[1], w[2], w[3]), NONE);
        }
    }

    private static void apart() {
        Check.says("APART; NONE: no such PLAN told, FEAR.");
        Portrait.leaves("apart", y -> y.apart(0, 9, 0));
        int[][] wrong = {{1, 0, 0}, {3, 0, 0}, {-1, 0, 0}, {4, 0, 0}, {0, -1, 0}, {0, 10, 0}, {0, 0, -1}, {0, 0, 10},
            {Integer.MAX_VALUE, 0, 0}, {0, Integer.MIN_VALUE, 0}, {0, 0, Integer.MAX_VALUE}};
        for (int[] w : wrong) {
            Portrait.keeps("apart " + w[0] + " " + w[1] + " " + w[2], y -> y.apart(w[0], w[1], w[2]), NONE);
        }
    }

    private static void same() {
        Check.says("SAME as bits; NONE: no such PLAN told, FEAR.");
        Portrait.leaves("same", y -> y.same(0, 9));
        int[][] wrong = {{1, 0}, {3, 0}, {-1, 0}, {4, 0}, {0, -1}, {0, 10}, {Integer.MIN_VALUE, 0},
            {0, Integer.MAX_VALUE}};
        for (int[] w : wrong) {
            Portrait.keeps("same " + w[0] + " " + w[1], y -> y.same(w[0], w[1]), NONE);
        }
    }

    private static void best() {
        Check.says("BEST, what 0: POWER, 1: QUESTIONS as bits, 2: MINUTES; NONE: no such PLAN told, FEAR, MINUTES, what.");
        PenThatJumps x = Portrait.rich();
        Check.rangeOf("what", 0, 2, v -> x.best(0, 0, 9, v));
        // Line 2 tells of who has done it by 1 at each question, line 0 by 10 at that of the true item, the third.
        int[] due = {14, 15, 6};
        for (int what = 0; what < 3; what++) {
            int of = what;
            Portrait.keeps("best, what " + what, y -> y.best(0, 3, 99, of), due[what]);
        }
        int[][] wrong = {{1, 0, 1, 0}, {3, 0, 1, 0}, {-1, 0, 1, 0}, {4, 0, 1, 0}, {0, -1, 1, 0}, {0, 10, 1, 0},
            {0, 0, 0, 0}, {0, 0, 100, 0}, {0, 0, 1, 3}, {0, 0, 1, -1}, {0, 0, Integer.MIN_VALUE, 0},
            {0, 0, Integer.MAX_VALUE, 0}};
        for (int[] w : wrong) {
            Portrait.keeps("best " + w[0] + " " + w[1] + " " + w[2] + " " + w[3],
                    y -> y.best(w[0], w[1], w[2], w[3]), NONE);
        }
    }

    private static void odds() {
        Check.says("ODDS, what 0: above, 1: below; NONE: no such q, m, k (0 to q), what.");
        PenThatJumps x = new PenThatJumps();
        Check.rangeOf("what", 0, 1, v -> x.odds(2, 3, 1, v));
        Check.due("above", x.odds(2, 3, 1, 0), 5);
        Check.due("below", x.odds(2, 3, 1, 1), 9);
        Portrait.leaves("odds", y -> y.odds(9, 9, 5, 0));
        int[][] wrong = {{0, 2, 0, 0}, {10, 2, 0, 0}, {1, 1, 0, 0}, {1, 10, 0, 0}, {3, 2, -1, 0}, {3, 2, 4, 0},
            {9, 9, 10, 0}, {3, 2, 1, 2}, {3, 2, 1, -1}, {0, 0, 0, 0}, {Integer.MAX_VALUE, 2, 0, 0},
            {1, Integer.MIN_VALUE, 0, 0}, {1, 2, Integer.MAX_VALUE, 0}};
        for (int[] w : wrong) {
            Portrait.keeps("odds " + w[0] + " " + w[1] + " " + w[2] + " " + w[3],
                    y -> y.odds(w[0], w[1], w[2], w[3]), NONE);
        }
    }

    private static void items() {
        Check.says("ITEMS; NONE: no such m, p, more than 9.");
        Portrait.keeps("items", y -> y.items(9, 387420489), 9);
        int[][] wrong = {{1, 1}, {10, 1}, {0, 1}, {-2, 1}, {2, 0}, {2, -1}, {2, 1000000000}, {2, 513}, {3, 19684},
            {9, 387420490}, {9, 999999999}, {9, Integer.MAX_VALUE}, {9, Integer.MIN_VALUE}, {Integer.MIN_VALUE, 1},
            {Integer.MAX_VALUE, 1}};
        for (int[] w : wrong) {
            Portrait.keeps("items " + w[0] + " " + w[1], y -> y.items(w[0], w[1]), NONE);
        }
    }

    private static void named() {
        Check.says("NAMED by the RATES of a PLAN, a READER, a FILE, SEEDS, what 0: above, 1: below; NONE: others,"
                + " as of rates(), nobody has DONE it, or all have.");
        PenThatJumps x = Portrait.rich();
        Check.rangeOf("reader", 0, 3, v -> x.named(9, 1, 0, v, 0, 1, 0));
        Check.rangeOf("file", -9, 9, v -> x.named(9, 1, 0, 0, v, 1, 0));
        Check.rangeOf("seeds", 1, 40, v -> x.named(9, 1, 0, 0, 0, v, 0));
        Check.rangeOf("what", 0, 1, v -> x.named(9, 1, 0, 0, 0, 1, v));
        Portrait.leaves("named", y -> y.named(100, 10, 0, 3, 0, 40, 1));
        int[][] wrong = {{0, 0, 0, 0, 0, 1, 0}, {10000, 0, 0, 0, 0, 1, 0}, {-1, -1, 0, 0, 0, 1, 0},
            {5, -1, 0, 0, 0, 1, 0}, {5, 6, 0, 0, 0, 1, 0}, {5, 1, 1, 0, 0, 1, 0}, {5, 1, -1, 0, 0, 1, 0},
            {5, 1, 4, 0, 0, 1, 0}, {5, 1, 0, 4, 0, 1, 0}, {5, 1, 0, -1, 0, 1, 0}, {5, 1, 0, 0, 10, 1, 0},
            {5, 1, 0, 0, -10, 1, 0}, {5, 1, 0, 0, 0, 0, 0}, {5, 1, 0, 0, 0, 41, 0}, {5, 1, 0, 0, 0, 1, 2},
            {5, 1, 0, 0, 0, 1, -1}};
        for (int[] w : wrong) {
            Portrait.keeps("named " + w[0] + " " + w[1] + " " + w[2] + " " + w[3] + " " + w[4] + " " + w[5] + " " + w[6],
                    y -> y.named(w[0], w[1], w[2], w[3], w[4], w[5], w[6]), NONE);
        }
        for (int people = 0; people <= 8; people++) {
            for (int doers = 0; doers <= people; doers++) {
                PenThatJumps y = new PenThatJumps();
                Check.plan(y, 0, "ask plain;");
                Check.reader(y, 0, "says when 1;");
                for (int i = 0; i < people; i++) {
                    y.person(i, 0, i < doers, 0, false);
                }
                boolean both = doers > 0 && doers < people;
                String call = doers + " of " + people + " have done it, ";
                Check.due(call + "above", y.named(8, 2, 0, 0, 0, 3, 0), both ? 1 : NONE);
                Check.due(call + "below", y.named(8, 2, 0, 0, 0, 3, 1), both ? 4 : NONE);
                Check.due(call + "none of them, above", y.named(8, 0, 0, 0, 0, 3, 0), both ? 0 : NONE);
            }
        }
    }

    private static void confess() {
        Check.says("CONFESSIONS: true; false: others.");
        for (int wrong : new int[] {-1, 10000, Integer.MIN_VALUE, Integer.MAX_VALUE, 65536}) {
            for (int bits = 0; bits < 8; bits++) {
                boolean done = (bits & 1) != 0;
                boolean named = (bits & 2) != 0;
                boolean yes = (bits & 4) != 0;
                Portrait.keeps("confess " + wrong, x -> Check.bit(x.confess(done, named, yes, wrong)), 0);
            }
        }
        Portrait.keeps("nobody more", x -> Check.bit(x.confess(true, true, true, 0)), 1);
        PenThatJumps x = Portrait.rich();
        Check.due("so many more", x.confess(true, true, true, 9999), true);
        Check.due("they are counted", x.count(4), 15 + 9999);
    }

    private static void worth() {
        Check.says("WORTH (of whom 0: DONE it, 1: others, 2: all), what 0: above (it may be below 0), 1: below."
                + " NoSuchElementException: others, none.");
        PenThatJumps x = Portrait.rich();
        Check.rangeThrown("whom", 0, 2, v -> x.worth(v, 0));
        Check.rangeThrown("what", 0, 1, v -> x.worth(0, v));
        // 3 of 3 less 0 of 2; 0 of 4 less 1 of 6; 3 of 7 less 1 of 8.
        long[][] due = {{1, 1}, {-1, 6}, {17, 56}};
        for (int whom = 0; whom < 3; whom++) {
            int of = whom;
            Portrait.keeps("worth of " + whom + ", above", y -> y.worth(of, 0), due[whom][0]);
            Portrait.keeps("worth of " + whom + ", below", y -> y.worth(of, 1), due[whom][1]);
        }
        int[][] wrong = {{-1, 0}, {3, 0}, {0, -1}, {0, 2}, {3, 2}, {Integer.MIN_VALUE, 0}, {0, Integer.MAX_VALUE}};
        for (int[] w : wrong) {
            Portrait.keepsThrown("worth " + w[0] + " " + w[1], y -> y.worth(w[0], w[1]));
        }
        // None of who were named, none of who were not, of those who have done it or of others.
        for (int bits = 0; bits < 16; bits++) {
            PenThatJumps y = new PenThatJumps();
            for (int cell = 0; cell < 4; cell++) {
                y.confess((cell & 1) == 0, (cell & 2) == 0, true, bits >> cell & 1);
            }
            boolean[] some = {(bits & 5) == 5, (bits & 10) == 10, (bits & 3) != 0 && (bits & 12) != 0};
            for (int whom = 0; whom < 3; whom++) {
                int of = whom;
                String above = some[whom] ? "0" : "throws.NoSuchElementException";
                Check.due("worth of " + whom + ", above", Check.answer(() -> y.worth(of, 0)), above);
                String below = some[whom] ? "1" : "throws.NoSuchElementException";
                Check.due("worth of " + whom + ", below", Check.answer(() -> y.worth(of, 1)), below);
            }
        }
    }

    private static void paper() {
        Check.says("A PAPER: true; false: others.");
        int[][] wrong = {{0, 0}, {-1, 0}, {-1, -1}, {10000, 0}, {10000, 10000}, {5, -1}, {5, 6}, {1, 2}, {9999, 10000},
            {Integer.MIN_VALUE, 0}, {Integer.MAX_VALUE, 0}, {5, Integer.MIN_VALUE}, {5, Integer.MAX_VALUE}};
        for (int[] w : wrong) {
            Portrait.keeps("paper " + w[0] + " " + w[1], x -> Check.bit(x.paper(true, w[0], w[1])), 0);
            Portrait.keeps("paper of others " + w[0] + " " + w[1], x -> Check.bit(x.paper(false, w[0], w[1])), 0);
        }
        PenThatJumps x = Portrait.rich();
        Check.due("a paper", x.paper(true, 9999, 9999), true);
        Check.due("a paper of others", x.paper(false, 1, 0), true);
        Check.due("people", x.count(5), 37 + 10000);
    }

    private static void lean() {
        Check.says("LEAN, what 0: above (it may be below 0), 1: below. NoSuchElementException: others, none"
                + " (no PAPER on one side).");
        PenThatJumps x = Portrait.rich();
        Check.rangeThrown("what", 0, 1, v -> x.lean(v));
        // 9 of 10 less 19 of 27.
        Portrait.keeps("above", y -> y.lean(0), 53);
        Portrait.keeps("below", y -> y.lean(1), 270);
        for (int wrong : new int[] {-1, 2, Integer.MIN_VALUE, Integer.MAX_VALUE}) {
            Portrait.keepsThrown("lean " + wrong, y -> y.lean(wrong));
        }
        for (int bits = 0; bits < 4; bits++) {
            PenThatJumps y = new PenThatJumps();
            if ((bits & 1) != 0) {
                y.paper(true, 2, 0);
            }
            if ((bits & 2) != 0) {
                y.paper(false, 2, 1);
            }
            String none = "throws.NoSuchElementException";
            Check.due("papers " + bits + ", above", Check.answer(() -> y.lean(0)), bits == 3 ? "-1" : none);
            Check.due("papers " + bits + ", below", Check.answer(() -> y.lean(1)), bits == 3 ? "2" : none);
        }
    }

    private static void mark() {
        Check.says("A MARK is laid (back: gone back to): true; false: none such, nothing is on it,"
                + " fewer SITTINGS than on it (back).");
        for (int wrong : new int[] {-1, 4, Integer.MIN_VALUE, Integer.MAX_VALUE, 256}) {
            Portrait.keeps("mark " + wrong, x -> Check.bit(x.mark(wrong, false)), 0);
            Portrait.keeps("back to " + wrong, x -> Check.bit(x.mark(wrong, true)), 0);
        }
        Portrait.keeps("nothing is on 0", x -> Check.bit(x.mark(0, true)), 0);
        Portrait.keeps("nothing is on 3", x -> Check.bit(x.mark(3, true)), 0);
        Portrait.keeps("as many as on it", x -> Check.bit(x.mark(2, true)), 1);
        PenThatJumps x = Portrait.rich();
        PenThatJumps y = Portrait.rich();
        Check.due("back", x.mark(1, true), true);
        Check.due("fewer than on it", x.mark(2, true), false);
        y.mark(1, true);
        Check.due("that leaves all as it was", Portrait.of(x), Portrait.of(y));
        PenThatJumps z = Portrait.rich();
        z.mark(1, true);
        Check.due("one sitting more", z.sit(0, 0, 0), 2);
        Check.due("as many", z.mark(2, true), true);
        Check.due("confessions of then", z.count(4), 15);
        Check.due("one more than on it", z.sit(0, 0, 0), 3);
        Check.due("more than on it", z.mark(2, true), true);
        Check.due("sittings", z.count(2), 3);
        Check.due("laid where something is", z.mark(1, false), true);
        Check.due("gone back to", z.mark(1, true), true);
        Check.due("with more on it", z.count(2), 3);
        full();
    }

    private static void full() {
        PenThatJumps x = Portrait.rich();
        for (int i = 3; i < 24; i++) {
            x.sit(0, 0, 0);
        }
        Check.due("a mark of 24", x.mark(0, false), true);
        Check.due("back to it", x.mark(0, true), true);
        Check.due("24 are there", x.sit(0, 0, 0), NONE);
        Check.due("back to 2", x.mark(1, true), true);
        for (int i = 2; i < 24; i++) {
            Check.due("fewer than 24", x.mark(0, true), false);
            x.sit(0, 0, 0);
        }
        Check.due("24 again", x.mark(0, true), true);
    }

    private static void count() {
        Check.says("What 0: PERSONS, 1: PLANS told, 2: SITTINGS, 3: PERSONS who have DONE it, 4: all CONFESSIONS counted,"
                + " 5: PAPERS' people, 6: signs on the TAPE, 7: lines of the BODY. NONE for another what.");
        PenThatJumps x = Portrait.rich();
        Check.rangeOf("what", 0, 7, v -> x.count(v));
        int[] due = {3, 2, 3, 2, 15, 37, Portrait.TAPE.length(), 3};
        for (int what = 0; what < due.length; what++) {
            int of = what;
            Portrait.keeps("count " + what, y -> y.count(of), due[what]);
        }
        Portrait.keeps("count -1", y -> y.count(-1), NONE);
        Portrait.keeps("count 8", y -> y.count(8), NONE);
    }
}
