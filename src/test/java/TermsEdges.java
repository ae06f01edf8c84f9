/** The document's terms of persons, of the tape and of its tokens, each sentence at its edges. */
final class TermsEdges {
    private static final String SIGNS = "()<=+-*;";

    private TermsEdges() {
    }

    static void all() {
        calls();
        persons();
        fear();
        doneAndTrick();
        heard();
        trueItem();
        tapeLength();
        tapeSigns();
        taken();
        tokens();
        words();
        numbers();
        signs();
        none();
    }

    private static void calls() {
        Check.says("An object is used for at most 512 calls after it has been made; what later calls answer is free.");
        PenThatJumps x = new PenThatJumps();
        for (int i = 1; i < 512; i++) {
            Check.due("call " + i, x.confess(true, i % 2 == 0, false, 9999), true);
        }
        Check.due("the 512th call", x.count(4), 511 * 9999);
        PenThatJumps y = new PenThatJumps();
        for (int i = 1; i < 511; i++) {
            y.paper(i % 2 == 0, 9999, i % 2 == 0 ? 9999 : 1);
        }
        Check.due("the 511th call", y.lean(0), 9998);
        Check.due("the 512th call", y.lean(1), 9999);
        for (int i = 0; i < 2000; i++) {
            int n = i;
            Check.due("a later call throws", Check.answer(() -> y.confess(n % 2 == 0, n % 3 == 0, true, 9999) ? 1 : 0)
                    .startsWith("throws"), false);
        }
    }

    private static void persons() {
        Check.says("PERSONS 0 to 7:");
        Check.range("person", 0, 7, v -> new PenThatJumps().person(v, 0, false, 0, false));
        PenThatJumps x = new PenThatJumps();
        Check.plan(x, 0, "ask plain;");
        Check.body(x, "line 0 = fear;");
        for (int i = 0; i < 8; i++) {
            Check.due("nobody yet", x.sit(i, 0, 0), -1);
            Check.due("person " + i, x.person(i, 9 - i, false, 0, false), true);
            Check.due("so many", x.count(0), i + 1);
        }
        for (int i = 0; i < 8; i++) {
            Check.due("each is another one", x.jump(x.sit(i, 0, 0), 0, 0), 9 - i);
        }
        Check.due("a ninth", x.person(8, 0, false, 0, false), false);
        Check.due("eight are all", x.count(0), 8);
    }

    /** The jump of a person on line 0 at the only question of a plan. */
    private static int jump(PenThatJumps x, String plan, String e) {
        Check.plan(x, 0, plan);
        Check.body(x, "line 0 = " + e + ";");
        return x.jump(x.sit(0, 0, 0), 0, 0);
    }

    private static void fear() {
        Check.says("FEAR (0 to 9)");
        Check.range("fear", 0, 9, v -> new PenThatJumps().person(0, v, false, 0, false));
        for (int fear = 0; fear <= 9; fear++) {
            PenThatJumps x = new PenThatJumps();
            Check.due("fear " + fear, x.person(0, fear, false, 0, false), true);
            Check.due("he is so afraid", jump(x, "ask plain;", "fear"), fear);
        }
    }

    private static void doneAndTrick() {
        for (int bits = 0; bits < 4; bits++) {
            boolean done = (bits & 1) != 0;
            boolean trick = (bits & 2) != 0;
            PenThatJumps x = new PenThatJumps();
            x.person(0, 0, done, 0, trick);
            Check.says("whether they have DONE it");
            Check.due("done", jump(x, "ask plain;", "done"), done ? 1 : 0);
            Check.due("those who have", x.count(3), done ? 1 : 0);
            Check.says("whether they TRICK.");
            Check.due("trick", jump(x, "ask plain;", "trick"), trick ? 1 : 0);
        }
    }

    private static void heard() {
        Check.says("what they HEARD (ITEMS 0 to 8 as bits)");
        Check.range("heard", 0, 511, v -> new PenThatJumps().person(0, 0, false, v, false));
        for (int bit = 0; bit <= 8; bit++) {
            PenThatJumps x = new PenThatJumps();
            Check.due("heard " + bit, x.person(0, 0, false, 1 << bit, false), true);
            for (int item = 0; item <= 8; item++) {
                String plan = "ask known " + item + ";";
                Check.due(bit + " is heard at " + item, jump(x, plan, "heard"), bit == item ? 1 : 0);
            }
        }
        for (int bit = 9; bit <= 31; bit++) {
            Check.due("bit " + bit, new PenThatJumps().person(0, 0, false, 1 << bit, false), false);
            Check.due("bit " + bit + " more", new PenThatJumps().person(0, 0, false, 1 << bit | 1, false), false);
        }
        PenThatJumps x = new PenThatJumps();
        x.person(0, 0, false, 511, false);
        for (int item = 0; item <= 8; item++) {
            Check.due("all are heard", jump(x, "ask known " + item + ";", "heard"), 1);
        }
        x.person(0, 0, false, 0, false);
        for (int item = 0; item <= 8; item++) {
            Check.due("none is heard", jump(x, "ask known " + item + ";", "heard"), 0);
        }
    }

    private static void trueItem() {
        Check.says("The TRUE ITEM is told (0 at first).");
        for (int told = -1; told <= 8; told++) {
            PenThatJumps x = new PenThatJumps();
            x.person(0, 0, false, 0, false);
            if (told >= 0) {
                Check.due("item " + told, x.item(told), true);
            }
            for (int item = 0; item <= 8; item++) {
                int due = item == Math.max(told, 0) ? 1 : 0;
                Check.due("told " + told + ", asked " + item, jump(x, "ask known " + item + ";", "real"), due);
            }
        }
    }

    private static void tapeLength() {
        Check.says("The TAPE has at most 1,000 signs");
        PenThatJumps x = new PenThatJumps();
        String blanks = " ".repeat(24);
        for (int i = 1; i <= 41; i++) {
            Check.due("signs", Check.feed(x, blanks), i * 24);
        }
        Check.due("999 signs", Check.feed(x, " ".repeat(15)), 999);
        Check.due("the thousandth", Check.feed(x, "x"), 1000);
        Check.due("one more", Check.feed(x, "y"), 1000);
        Check.due("many more", Check.feed(x, blanks), 1000);
        Check.due("as many are counted", x.count(6), 1000);
        Check.due("the thousandth is there", x.body(), 1 + 16 * 999);
        Check.feed(x, " ".repeat(1000) + "x");
        Check.due("what is beyond is not there", x.body(), 0);
        Check.feed(x, " ".repeat(999) + "xy");
        Check.due("up to there it is", x.body(), 1 + 16 * 999);
        Check.due("it may be filled again", Check.feed(x, " ".repeat(1008)), 1000);
    }

    private static void tapeSigns() {
        Check.says("signs, 10 and 32 .. 126;");
        PenThatJumps x = new PenThatJumps();
        int due = 0;
        for (long sign = 0; sign <= 255; sign++) {
            due += sign == 10 || sign >= 32 && sign <= 126 ? 1 : 0;
            Check.due("sign " + sign, x.feed(sign << 56, 0, 0), due);
        }
        Check.due("as many as there are", x.count(6), 96);
        PenThatJumps y = new PenThatJumps();
        Check.feed(y, "line 0 = 1" + (char) 10 + "2;");
        Check.due("10 is on it as a blank", y.body(), 1 + 16 * 11);
        Check.feed(y, "line 0 = 1" + (char) 9 + "2;");
        Check.due("9 is not on it", y.body(), 0);
    }

    private static void taken() {
        Check.says("what reads it takes it: it is empty then.");
        String[] texts = {"ask plain;", "line 0 = 1;", "says when 1;", "x", " ", ""};
        int[] size = {10, 11, 12, 1, 1, 0};
        for (int i = 0; i < texts.length; i++) {
            PenThatJumps x = new PenThatJumps();
            for (int way = 0; way < 7; way++) {
                Check.feed(x, texts[i]);
                Check.due("signs of " + texts[i], x.count(6), size[i]);
                read(x, way);
                Check.due("none after way " + way, x.count(6), 0);
                Check.due("nothing to read", x.plan(3), 1);
                Check.due("nor of a body", x.body(), 0);
                Check.due("nor of a reader", x.reader(3), 0);
            }
        }
    }

    private static void read(PenThatJumps x, int way) {
        switch (way) {
            case 0 -> x.plan(0);
            case 1 -> x.plan(-1);
            case 2 -> x.plan(4);
            case 3 -> x.body();
            case 4 -> x.reader(0);
            case 5 -> x.reader(-1);
            default -> x.reader(4);
        }
    }

    private static void plan(String text, int due) {
        Check.due("plan of " + text, Check.plan(new PenThatJumps(), 0, text), due);
    }

    private static void body(String text, int due) {
        Check.due("body of " + text, Check.body(new PenThatJumps(), text), due);
    }

    private static void reader(String text, int due) {
        Check.due("reader of " + text, Check.reader(new PenThatJumps(), 0, text), due);
    }

    private static void tokens() {
        Check.says("TOKENS, each as long as can be");
        plan("askplain;", 1);
        plan("ask plainfor 2;", 1 + 16 * 4);
        body("line 0 = not0;", 0);
        body("line 0 = notfear;", 1 + 16 * 9);
        body("line 0 = 1or 1;", 0);
        body("line 0 = 1or1;", 0);
        body("line 0 = 1orfear;", 1 + 16 * 10);
        body("line 0 = 12;", 0);
        body("line 0 = 1 2;", 1 + 16 * 11);
        body("line0=1;line1=2;", 0);
        body("line 00 = 1;line 1 = 2;", 0);
        Check.says("blanks (10, 32) between where one likes:");
        plan("ask plain;", 0);
        plan("  \n ask \n\n plain \n ; \n ", 0);
        plan("\nask\nknown\n8\nfor\n9\n;\nask\nasked\n;\n", 0);
        plan("ask known8for9;ask plain;", 0);
        plan("a sk plain;", 1);
        body(" line 0 = ( not 1 ) * ( 2 + 3 ) ; ", 0);
        body("line 0=(not 1)*(2+3);", 0);
        body("line\n0\n=\n(\nnot\n1\n)\n*\n2\n;\n", 0);
        reader(" says\nwhen\nplain\n2\n; ", 0);
        reader("says when plain2+known0;says when file;", 0);
        reader("sayswhen 1;", 1);
        reader("says when1;", 0);
    }

    private interface Reading {
        void due(String text, int fault);
    }

    /** A word of a text that is right is no longer the same, whichever of its letters is another one. */
    private static void otherLetters(String text, String word, Reading reading) {
        reading.due(text, 0);
        int at = (" " + text).indexOf(" " + word);
        for (int i = at; i < at + word.length(); i++) {
            char other = text.charAt(i) == 'z' ? 'y' : 'z';
            reading.due(text.substring(0, i) + other + text.substring(i + 1), 1 + 16 * at);
        }
    }

    private static void words() {
        Check.says("WORDS (letters a .. z, 8 at most)");
        // The signs beside a and z are no letters: the word ends ahead of them.
        body("line 0 = fear`;", 1 + 16 * 13);
        body("line 0 = fear{;", 1 + 16 * 13);
        body("line 0 = fearA;", 1 + 16 * 13);
        body("line 0 = feara;", 1 + 16 * 9);
        body("line 0 = fearz;", 1 + 16 * 9);
        body("line 0 = abcdefgh;", 1 + 16 * 9);
        body("line 0 = fear abcdefgh;", 1 + 16 * 14);
        for (char letter = 'a'; letter <= 'z'; letter++) {
            plan("ask " + letter + ";", 1 + 16 * 4);
            plan("ask plain" + letter + ";", 1 + 16 * 4);
            plan(letter + "ask plain;", 1);
        }
        for (String word : "ask plain shaming asked known for".split(" ")) {
            otherLetters("ask known 1 for 2; ask plain; ask shaming; ask asked;", word, TermsEdges::plan);
        }
        for (String word : "line plain shaming asked known real heard fear done trick habit place noise not and or"
                .split(" ")) {
            otherLetters("line 0 = plain + shaming + asked + known + real + heard + fear + done + trick + habit and"
                    + " place or noise < not 1;", word, TermsEdges::body);
        }
        for (String word : "says when plain shaming asked known real others file asks not and or".split(" ")) {
            otherLetters("says when plain 0 + shaming 0 + asked 0 + known 0 + real 0 + others 0 + file and asks or"
                    + " not 1;", word, TermsEdges::reader);
        }
        Check.says("All else (a longer WORD or NUMBER, too, at its first sign) is none.");
        body("line 0 = fear abcdefghi;", 1 + 16 * 14);
        body("line 0 = abcdefghi;", 1 + 16 * 9);
        plan("ask plainplain;", 1 + 16 * 4);
        plan("ask shamingshaming;", 1 + 16 * 4);
        plan("ask " + "plain".repeat(100) + ";", 1 + 16 * 4);
        plan("a".repeat(1000), 1);
        body("line 0 = 10000;", 1 + 16 * 9);
        body("line 0 = 00000;", 1 + 16 * 9);
        body("line 0 = 1 + 12345 + 2;", 1 + 16 * 13);
        body("line 0 = 4294967296;", 1 + 16 * 9);
        body("line 0 = 18446744073709551616;", 1 + 16 * 9);
        body("line 00000 = 1;", 1 + 16 * 5);
        plan("ask known 00001;", 1 + 16 * 10);
        plan("ask plain for 00001;", 1 + 16 * 14);
        reader("says when plain 00000;", 1 + 16 * 16);
        body("line 0 = " + "1".repeat(900), 1 + 16 * 9);
    }

    private static void numbers() {
        Check.says("NUMBERS (1 to 4 digits; a letter may stand right behind)");
        body("line 0 = 0;", 0);
        body("line 0 = 9999;", 0);
        body("line 0 = 0000;", 0);
        body("line 0001 = 1; line 2 = 1;", 0);
        plan("ask known 0008 for 0009;", 0);
        plan("ask known 8for 9;", 0);
        plan("ask known 8x;", 1 + 16 * 11);
        body("line 0 = 1and 2or 3;", 0);
        body("line 0 = 9999x;", 1 + 16 * 13);
        body("line 0 = 1fear;", 1 + 16 * 10);
        // The signs beside 0 and 9 are no digits.
        body("line 0 = 1/;", 1 + 16 * 10);
        body("line 0 = 1:;", 1 + 16 * 10);
        for (int digit = 0; digit <= 9; digit++) {
            PenThatJumps x = new PenThatJumps();
            x.person(0, 0, false, 0, false);
            Check.due("digit " + digit, jump(x, "ask plain;", "" + digit), digit);
            Check.due("of two", jump(x, "ask plain;", digit + "7 = " + digit + " * 10 + 7"), 1);
            Check.due("of four", jump(x, "ask plain;", "9" + digit + "98 = 9098 + " + digit + " * 100"), 1);
        }
    }

    private static void signs() {
        Check.says("the signs ( ) < = + - * ;");
        body("line 0 = (1 + 2 - 3 * 4 < 5) = 6;", 0);
        for (char sign : SIGNS.toCharArray()) {
            boolean joins = "<=+-*".indexOf(sign) >= 0;
            String text = "line 0 = 1" + sign + "1;";
            body(text, joins ? 0 : 1 + 16 * (sign == ';' ? 11 : 10));
        }
    }

    private static void none() {
        Check.says("All else (a longer WORD or NUMBER, too, at its first sign) is none.");
        for (char sign = 33; sign <= 126; sign++) {
            boolean letter = sign >= 'a' && sign <= 'z';
            boolean digit = sign >= '0' && sign <= '9';
            if (!letter && !digit && SIGNS.indexOf(sign) < 0) {
                plan(sign + "ask plain;", 1);
                plan("ask plain" + sign + ";", 1 + 16 * 9);
                body("line 0 = 1 " + sign, 1 + 16 * 11);
                body("line 0 = 1;" + sign, 1 + 16 * 11);
                reader("says when 1" + sign + "1;", 1 + 16 * 11);
            }
        }
    }
}
