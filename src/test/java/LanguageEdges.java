import java.util.List;

/** The document's terms of plans, bodies, readers, E and faults, each sentence at its edges. */
final class LanguageEdges {
    private static final List<String> KINDS = List.of("plain", "shaming", "asked", "known");
    private static final List<String> BODY_FACTS = List.of("plain", "shaming", "asked", "known", "real", "heard",
            "fear", "done", "trick", "habit", "place", "noise");
    private static final List<String> LINE_FACTS = List.of("plain", "shaming", "asked", "known", "real", "others");
    private static final List<String> TOKENS = List.of("plain", "shaming", "asked", "known", "real", "heard", "fear",
            "done", "trick", "habit", "place", "noise", "file", "asks", "others", "not", "and", "or", "ask", "for",
            "line", "says", "when", "x", "abcdefgh", "abcdefghi", "1", "12345", "(", ")", "<", "=", "+", "-", "*",
            ";", "#", "A", ",", "");
    private static final String PARTS_OF_BODY = "plain shaming asked known real heard fear done trick habit place noise"
            + " not 1 (";
    private static final String PARTS_OF_READER = "plain shaming asked known real others file asks not 1 (";

    private LanguageEdges() {
    }

    static void all() {
        plans();
        knownItems();
        minutes();
        bodies();
        readers();
        order();
        depth();
        truth();
        wrapping();
        bodyFacts();
        readerFacts();
        places();
        firstAndLeast();
        standing();
        toldAndTooMany();
        fromThenOn();
    }

    // ---- short ways to say things

    private static int plan(String text) {
        return Check.plan(new PenThatJumps(), 0, text);
    }

    private static int body(String text) {
        return Check.body(new PenThatJumps(), text);
    }

    private static int reader(String text) {
        return Check.reader(new PenThatJumps(), 0, text);
    }

    /** The jumps of somebody on line 0 at each question of a plan. */
    private static void jumps(PenThatJumps x, String plan, String e, int... due) {
        Check.due("plan of " + plan, Check.plan(x, 0, plan), 0);
        Check.due("body of " + e, Check.body(x, "line 0 = " + e + ";"), 0);
        int sitting = x.sit(0, 0, 0);
        for (int i = 0; i < due.length; i++) {
            Check.due(e + " at " + i + " of " + plan, x.jump(sitting, i, 0), due[i]);
        }
    }

    /** What an E without facts comes to. */
    private static void comes(String e, int due) {
        PenThatJumps x = new PenThatJumps();
        x.person(0, 0, false, 0, false);
        jumps(x, "ask plain;", e, due);
    }

    private static PenThatJumps somebody(int fear, boolean done, int heard, boolean trick) {
        PenThatJumps x = new PenThatJumps();
        x.person(0, fear, done, heard, trick);
        return x;
    }

    // ---- plans

    private static void plans() {
        Check.says("PLAN: one to 12 QUESTIONS ask KIND ; or ask KIND for N ;");
        Check.due("no question", plan(""), 1);
        for (int size = 1; size <= 14; size++) {
            PenThatJumps x = new PenThatJumps();
            int due = size <= 12 ? 0 : 5 + 16 * 12 * 10;
            Check.due(size + " questions", Check.plan(x, 0, "ask asked;".repeat(size)), due);
            Check.due("the last of " + size, x.question(0, size - 1, 0), size <= 12 ? 2 : -1);
            Check.due("no more of " + size, x.question(0, size, 0), -1);
            Check.due("it is told, or not", x.count(1), size <= 12 ? 1 : 0);
        }
        PenThatJumps y = new PenThatJumps();
        Check.due("twelve of the longest", Check.plan(y, 0, "ask shaming for 9 ;\n".repeat(12)), 0);
        Check.due("with minutes", y.question(0, 11, 2), 9);
        Check.says("KIND: plain, shaming, asked, known N.");
        for (int kind = 0; kind < 4; kind++) {
            PenThatJumps x = new PenThatJumps();
            String text = "ask " + KINDS.get(kind) + (kind == 3 ? " 4" : "") + ";";
            Check.due(text, Check.plan(x, 0, text), 0);
            Check.due("kind of " + text, x.question(0, 0, 0), kind);
            Check.due("item of " + text, x.question(0, 0, 1), kind == 3 ? 4 : -1);
            String other = "ask " + KINDS.get(kind) + (kind == 3 ? "" : " 4") + ";";
            Check.due(other, plan(other), 1 + 16 * (other.length() - (kind == 3 ? 1 : 2)));
        }
    }

    private static void knownItems() {
        Check.says("N of known: an ITEM (0 to 8)");
        for (int item = 0; item <= 8; item++) {
            PenThatJumps x = new PenThatJumps();
            Check.due("known " + item, Check.plan(x, 0, "ask known " + item + ";"), 0);
            Check.due("item", x.question(0, 0, 1), item);
        }
        for (int item : new int[] {9, 10, 16, 32, 255, 256, 264, 9999}) {
            Check.due("known " + item, plan("ask known " + item + ";"), 4 + 16 * 10);
        }
        Check.due("known 0009", plan("ask known 0009;"), 4 + 16 * 10);
        Check.due("known below 0", plan("ask known -1;"), 1 + 16 * 10);
    }

    private static void minutes() {
        Check.says("of for: MINUTES (1 to 9; 1 without).");
        for (int minutes = 1; minutes <= 9; minutes++) {
            PenThatJumps x = new PenThatJumps();
            Check.due("for " + minutes, Check.plan(x, 0, "ask known 0 for " + minutes + "; ask plain;"), 0);
            Check.due("minutes", x.question(0, 0, 2), minutes);
            Check.due("minutes without", x.question(0, 1, 2), 1);
        }
        for (int minutes : new int[] {0, 10, 11, 99, 257, 9999}) {
            Check.due("for " + minutes, plan("ask plain for " + minutes + ";"), 4 + 16 * 14);
        }
        Check.due("for 0000", plan("ask plain for 0000;"), 4 + 16 * 14);
        Check.due("for nothing", plan("ask plain for;"), 1 + 16 * 13);
    }

    // ---- bodies and readers

    private static void bodies() {
        Check.says("BODY: any number of line N = E ;");
        String[] texts = {"", "line 1 = 1;", "line 1 = 1; line 0 = 1;", "line 1 = 1; line 0 = 1; line 2 = 1;"};
        for (int lines = 0; lines <= 3; lines++) {
            PenThatJumps x = new PenThatJumps();
            Check.due(texts[lines], Check.body(x, texts[lines]), 0);
            Check.due("lines", x.count(7), lines);
        }
        for (String order : new String[] {"012", "021", "102", "120", "201", "210"}) {
            StringBuilder text = new StringBuilder();
            for (char line : order.toCharArray()) {
                text.append("line ").append(line).append(" = 5 * ").append(line).append(" + 7;");
            }
            PenThatJumps x = somebody(0, false, 0, false);
            Check.plan(x, 0, "ask plain;");
            Check.due(text.toString(), Check.body(x, text.toString()), 0);
            x.sit(0, 0, 0);
            for (int line = 0; line <= 2; line++) {
                Check.due("line " + line + " of " + text, x.jump(0, 0, line), 5 * line + 7);
            }
        }
        Check.says("N 0 to 2, each once");
        for (int line = 0; line <= 2; line++) {
            String text = "line " + line + " = 7;";
            Check.due(text, body(text), 0);
            Check.due("twice " + text, body(text + text), 3 + 16 * (text.length() + 5));
        }
        for (int line : new int[] {3, 4, 10, 256, 9999}) {
            Check.due("line " + line, body("line " + line + " = 7;"), 4 + 16 * 5);
        }
        Check.due("a fourth line", body("line 0=1;line 1=1;line 2=1;line 3=1;"), 4 + 16 * 32);
        Check.due("a fourth line, told", body("line 0=1;line 1=1;line 2=1;line 2=1;"), 3 + 16 * 32);
        Check.says("a LINE without one does not jump.");
        for (int line = 0; line <= 2; line++) {
            PenThatJumps x = somebody(9, true, 511, true);
            Check.plan(x, 0, "ask plain; ask known 0;");
            Check.body(x, "line 0 = 9; line 1 = 9; line 2 = 9;");
            Check.due("body", Check.body(x, "line " + line + " = 7;"), 0);
            x.sit(0, 0, 0);
            for (int other = 0; other <= 2; other++) {
                Check.due("line " + other, x.jump(0, 0, other), other == line ? 7 : 0);
                Check.due("line " + other, x.jump(0, 1, other), other == line ? 7 : 0);
            }
        }
    }

    private static void readers() {
        Check.says("READER: any number of says when E ; 6 at most.");
        String line = "says when 0;";
        for (int lines = 0; lines <= 8; lines++) {
            int due = lines <= 6 ? 0 : 5 + 16 * 6 * 12;
            Check.due(lines + " lines", reader(line.repeat(lines)), due);
        }
        for (int lines = 1; lines <= 6; lines++) {
            PenThatJumps x = somebody(0, false, 0, false);
            Check.plan(x, 0, "ask plain;");
            x.sit(0, 0, 0);
            Check.reader(x, 0, line.repeat(lines - 1) + "says when 1;");
            Check.due("the last of " + lines + " is read", x.says(0, 0, 0), 1);
            Check.reader(x, 0, line.repeat(lines));
            Check.due("none of " + lines + " is so", x.says(0, 0, 0), 0);
        }
    }

    // ---- E

    private static void order() {
        Check.says("E: TEST { and TEST or or TEST }, from the left");
        comes("1 or 1 and 0", 0);
        comes("0 and 0 or 1", 1);
        comes("1 or (1 and 0)", 1);
        comes("1 or 1 and 0 or 0 and 1 or 1", 1);
        comes("1 and 1 < 2 or 0", 1);
        comes("1" + " and 1".repeat(120), 1);
        Check.due("nothing behind and", body("line 0 = 1 and;"), 1 + 16 * 14);
        Check.says("TEST: SUM, or SUM < SUM, or SUM = SUM");
        comes("7", 7);
        comes("2 + 2 < 3 + 2", 1);
        comes("3 + 2 < 2 + 3", 0);
        comes("3 + 2 = 2 + 3", 1);
        comes("3 < 2", 0);
        comes("(1 = 1) = 1", 1);
        for (String joints : new String[] {"< <", "< =", "= <", "= ="}) {
            String text = "line 0 = 1 " + joints.charAt(0) + " 1 " + joints.charAt(2) + " 1;";
            Check.due(text, body(text), 1 + 16 * 15);
        }
        Check.due("= for each test", body("line 0 = 1 = 1 and 1 = 1 or 1 < 1;"), 0);
        Check.says("SUM: PRODUCT { + or - PRODUCT }");
        comes("9 - 3 - 2", 4);
        comes("9 - 3 + 2", 8);
        comes("9 - (3 + 2)", 4);
        comes("2 + 3 * 4 - 5", 9);
        comes("1" + " + 1".repeat(98), 99);
        Check.due("a sign ahead", body("line 0 = - 1;"), 1 + 16 * 9);
        Check.says("PRODUCT: PART { * PART }");
        comes("2 * 3 * 4", 24);
        comes("(1 + 2) * 3", 9);
        comes("2 * not 0 * 7", 14);
        comes("1" + " * 1".repeat(200), 1);
        Check.says("PART: a NUMBER, a fact, not PART, ( E )");
        comes("0", 0);
        comes("99", 99);
        comes("plain", 1);
        comes("not 0", 1);
        comes("not 0 + 1", 2);
        comes("not (0 + 1)", 0);
        comes("not not 5", 1);
        comes("(5)", 5);
        comes("(1 < 2 and 3 = 3)", 1);
        Check.due("nothing in it", body("line 0 = ();"), 1 + 16 * 10);
        Check.due("not without a part", body("line 0 = not;"), 1 + 16 * 12);
        Check.due("not closed", body("line 0 = (1;"), 1 + 16 * 11);
        Check.due("not opened", body("line 0 = 1);"), 1 + 16 * 10);
    }

    /** Some nots and brackets round a part, by bits, outermost lowest; so many. */
    private static String nested(int bits, int many, String part) {
        StringBuilder ahead = new StringBuilder();
        StringBuilder behind = new StringBuilder();
        for (int i = 0; i < many; i++) {
            boolean not = (bits >> i & 1) == 1;
            ahead.append(not ? "not " : "( ");
            behind.append(not ? "" : " )");
        }
        return ahead + part + behind;
    }

    private static void depth() {
        Check.says("no PART lies within 5 of not and ( ).");
        String[] parts = {"1", "fear", "not 1", "( 1 )"};
        for (int many = 0; many <= 7; many++) {
            for (int bits = 0; bits < 1 << many; bits++) {
                for (String part : parts) {
                    boolean deeper = part.length() > 4;
                    String text = "line 0 = " + nested(bits, many, part) + ";";
                    int deepest = deeper ? many + 1 : many;
                    int due = deepest < 5 ? 0 : 5 + 16 * placeOf(text, 5);
                    Check.due(text, body(text), due);
                }
            }
        }
        comes("(((( 1 )))) + (((( 2 )))) * (((( 3 ))))", 7);
        comes("( not ( not 1 ) ) + not not not not 1", 2);
        Check.due("of a reader", reader("says when (((( plain 0 ))));"), 0);
        Check.due("of a reader, too deep", reader("says when ((((( plain 0 )))));"), 5 + 16 * 16);
        Check.due("the second part of a sum", body("line 0 = (((( 1 + (2) ))));"), 5 + 16 * 19);
    }

    /** The place of the part that stands within so many others of a text of nested. */
    private static int placeOf(String text, int within) {
        int at = "line 0 = ".length();
        for (int i = 0; i < within; i++) {
            at += text.charAt(at) == 'n' ? 4 : 2;
        }
        return at;
    }

    private static void truth() {
        Check.says("Of not, and, or, < and = comes 1 or 0");
        for (int a : new int[] {0, 1, 2, 99, 9999}) {
            comes("5 + not " + a, a == 0 ? 6 : 5);
            for (int b : new int[] {0, 1, 2, 99, 9999}) {
                comes("5 + (" + a + " and " + b + ")", a != 0 && b != 0 ? 6 : 5);
                comes("5 + (" + a + " or " + b + ")", a != 0 || b != 0 ? 6 : 5);
                comes("5 + (" + a + " < " + b + ")", a < b ? 6 : 5);
                comes("5 + (" + a + " = " + b + ")", a == b ? 6 : 5);
            }
        }
        Check.says("what is not 0 is so");
        comes("not (0 - 1)", 0);
        comes("(0 - 1) and 1", 1);
        comes("(0 - 1) or 0", 1);
        comes("0 - 0 or 0", 0);
        comes("not (1 - 1)", 1);
        comes("2 and 4", 1);
        comes("not (2048 * 1024 * 1024)", 0);
        comes("(0 - 1) < 0", 1);
        comes("0 < (0 - 1)", 0);
    }

    private static void wrapping() {
        Check.says("ints wrap.");
        comes("2048 * 1024 * 1024 < 0", 1);
        comes("2048 * 1024 * 1024 - 1 < 0", 0);
        comes("2048 * 1024 * 1024 - 1", 99);
        comes("2048 * 1024 * 1024", 0);
        comes("2048 * 1024 * 1024 - 1 + 1 < 0", 1);
        comes("0 - 2048 * 1024 * 1024 < 0", 1);
        comes("0 - 2048 * 1024 * 1024 - 1", 99);
        comes("4096 * 1024 * 1024", 0);
        comes("4096 * 1024 * 1024 + 7", 7);
        comes("4096 * 1024 * 1024 = 0", 1);
        comes("2048 * 1024 * 1024 + 2048 * 1024 * 1024 + 5", 5);
        comes("2048 * 1024 * 1024 * (0 - 1) < 0", 1);
        comes("2048 * 1024 * 1023 < 2048 * 1024 * 1024", 0);
        // 9999 * 9999 * 9999 is 233 * 2^32 - 1027349969.
        comes("9999 * 9999 * 9999 + 1027 * 1000 * 1000 + 349 * 1000 + 969 = 0", 1);
        comes("9999 * 9999 * 9999 + 1027 * 1000 * 1000 + 349 * 1000 + 968 < 0", 1);
    }

    // ---- facts

    private static void bodyFacts() {
        String four = "ask plain; ask shaming; ask asked; ask known 5; ask known 8;";
        Check.says("Facts of a BODY: plain, shaming, asked, known (1 if the QUESTION is of that KIND)");
        jumps(somebody(9, true, 511, true), four, "plain", 1, 0, 0, 0, 0);
        jumps(somebody(9, true, 511, true), four, "shaming", 0, 1, 0, 0, 0);
        jumps(somebody(9, true, 511, true), four, "asked", 0, 0, 1, 0, 0);
        jumps(somebody(9, true, 511, true), four, "known", 0, 0, 0, 1, 1);
        Check.says("real (1 if it is of the TRUE ITEM)");
        PenThatJumps x = somebody(9, true, 511, true);
        jumps(x, four, "real", 0, 0, 0, 0, 0);
        x.item(8);
        jumps(x, four, "real", 0, 0, 0, 0, 1);
        x.item(5);
        jumps(x, four, "real", 0, 0, 0, 1, 0);
        jumps(x, "ask known 5; ask known 5;", "real", 1, 1);
        heard(four);
        Check.says("fear, done");
        jumps(somebody(0, false, 511, true), four, "fear", 0, 0, 0, 0, 0);
        jumps(somebody(9, false, 511, true), four, "fear", 9, 9, 9, 9, 9);
        jumps(somebody(9, false, 511, true), four, "done", 0, 0, 0, 0, 0);
        jumps(somebody(0, true, 0, false), four, "done", 1, 1, 1, 1, 1);
        Check.says("trick (1 if the PERSON TRICKS and the QUESTION is plain)");
        jumps(somebody(9, true, 511, true), four, "trick", 1, 0, 0, 0, 0);
        jumps(somebody(9, true, 511, false), four, "trick", 0, 0, 0, 0, 0);
        Check.says("habit (how many of its KIND were asked ahead)");
        PenThatJumps y = somebody(0, false, 0, false);
        jumps(y, "ask plain;".repeat(12), "habit", 0, 1, 2, 3, 4, 5, 6, 7, 8, 9, 10, 11);
        jumps(y, "ask known 0;ask known 8;ask known 0;ask asked;ask known 1;ask asked;", "habit", 0, 1, 2, 0, 3, 1);
        jumps(y, "ask plain;ask shaming;ask asked;ask known 0;ask plain;", "habit", 0, 0, 0, 0, 1);
        Check.says("place (from 0), noise.");
        jumps(y, "ask shaming;".repeat(12), "place", 0, 1, 2, 3, 4, 5, 6, 7, 8, 9, 10, 11);
        jumps(y, "ask shaming;", "place", 0);
        jumps(y, "ask shaming;".repeat(12), "not (noise < 0) and noise < 4", 1, 1, 1, 1, 1, 1, 1, 1, 1, 1, 1, 1);
    }

    private static void heard(String four) {
        Check.says("heard (1 if it is known and its ITEM was HEARD, or it is real and the PERSON has DONE it)");
        for (int bits = 0; bits < 8; bits++) {
            boolean real = (bits & 1) != 0;
            boolean done = (bits & 2) != 0;
            boolean heard = (bits & 4) != 0;
            PenThatJumps x = somebody(0, done, heard ? 1 << 8 : 0, false);
            x.item(real ? 8 : 0);
            jumps(x, four, "heard", 0, 0, 0, 0, heard || real && done ? 1 : 0);
        }
        jumps(somebody(9, true, 511, true), four, "heard", 0, 0, 0, 1, 1);
        jumps(somebody(9, true, 511 - (1 << 5), true), four, "heard", 0, 0, 0, 0, 1);
        jumps(somebody(9, true, 511, true), "ask known 0;", "heard", 1);
        jumps(somebody(9, false, 510, true), "ask known 0;", "heard", 0);
    }

    /** Whether a reader's fact is so much at the last sitting, and neither less nor more. */
    private static void fact(PenThatJumps x, int file, String fact, int due) {
        int sitting = x.count(2) - 1;
        Check.reader(x, 0, "says when " + fact + " = " + (due < 0 ? "0 - " + -due : due) + ";");
        Check.due(fact + " is " + due, x.says(sitting, 0, file), 1);
    }

    private static void readerFacts() {
        Check.says("Facts of a READER: file");
        PenThatJumps x = somebody(0, false, 0, false);
        Check.plan(x, 0, "ask plain;");
        x.sit(0, 0, 0);
        for (int file = -9; file <= 9; file++) {
            fact(x, file, "file", file);
        }
        Check.says("asks (how many QUESTIONS)");
        for (int size = 1; size <= 12; size++) {
            PenThatJumps y = somebody(0, false, 0, false);
            Check.plan(y, 0, "ask asked;".repeat(size));
            y.sit(0, 0, 0);
            fact(y, 0, "asks", size);
        }
        sums();
        greatest();
        Check.says("N 0 to 2.");
        for (String name : LINE_FACTS) {
            for (int line = 0; line <= 2; line++) {
                Check.due(name + " " + line, reader("says when " + name + " " + line + ";"), 0);
            }
            int at = 16 * ("says when " + name + " ").length();
            Check.due(name + " 3", reader("says when " + name + " 3;"), 4 + at);
            Check.due(name + " 9999", reader("says when " + name + " 9999;"), 4 + at);
            Check.due(name + " 10000", reader("says when " + name + " 10000;"), 1 + at);
            Check.due(name + " -1", reader("says when " + name + " -1;"), 1 + at);
            Check.due(name + " ;", reader("says when " + name + " ;"), 1 + at);
        }
        for (String name : new String[] {"file", "asks"}) {
            Check.due(name, reader("says when " + name + ";"), 0);
            Check.due(name + " 0", reader("says when " + name + " 0;"), 1 + 16 * 15);
        }
        for (String name : BODY_FACTS) {
            Check.due(name + " of a body", body("line 0 = " + name + ";"), 0);
            int at = 16 * ("line 0 = " + name + " ").length();
            Check.due(name + " 0 of a body", body("line 0 = " + name + " 0;"), 1 + at);
        }
    }

    private static void sums() {
        Check.says("plain N, shaming N, asked N, known N (the sum of the JUMPS of LINE N at QUESTIONS of that KIND)");
        for (int kind = 0; kind < 4; kind++) {
            PenThatJumps x = somebody(0, false, 0, false);
            Check.plan(x, 0, ("ask " + KINDS.get(kind) + (kind == 3 ? " 7;" : ";")).repeat(12));
            Check.body(x, "line 0 = 100; line 2 = place;");
            x.sit(0, 0, 0);
            for (int other = 0; other < 4; other++) {
                fact(x, 0, KINDS.get(other) + " 0", other == kind ? 12 * 99 : 0);
                fact(x, 0, KINDS.get(other) + " 1", 0);
                fact(x, 0, KINDS.get(other) + " 2", other == kind ? 66 : 0);
            }
        }
        PenThatJumps x = somebody(0, false, 0, false);
        Check.plan(x, 0, "ask known 0; ask plain; ask asked; ask known 8; ask shaming; ask plain;");
        Check.body(x, "line 1 = place + 1;");
        x.sit(0, 0, 0);
        int[] due = {8, 5, 3, 5};
        for (int kind = 0; kind < 4; kind++) {
            fact(x, 0, KINDS.get(kind) + " 1", due[kind]);
        }
    }

    private static void greatest() {
        String[] plans = {"ask plain;", "ask known 3; ask known 3;", "ask known 0; ask known 8; ask known 4;",
            "ask known 3; ask known 2; ask known 3; ask known 4; ask plain; ask asked; ask shaming;"};
        int[] real = {0, 8, 0, 9};
        int[] others = {0, 0, 9, 8};
        for (int i = 0; i < plans.length; i++) {
            PenThatJumps x = somebody(0, false, 0, false);
            x.item(3);
            Check.plan(x, 0, plans[i]);
            // By place: 7, 8, 9, 7, and 50 from there on.
            Check.body(x, "line 2 = 7 + place * (place < 3) + 43 * (3 < place); line 1 = 100;");
            x.sit(0, 0, 0);
            Check.says("real N (the greatest at those of the TRUE ITEM; 0)");
            fact(x, 0, "real 2", real[i]);
            fact(x, 0, "real 1", real[i] == 0 ? 0 : 99);
            fact(x, 0, "real 0", 0);
            Check.says("others N (the greatest at those of other ITEMS; 0)");
            fact(x, 0, "others 2", others[i]);
            fact(x, 0, "others 1", others[i] == 0 ? 0 : 99);
            fact(x, 0, "others 0", 0);
        }
    }

    // ---- faults

    private static void places() {
        Check.says("FAULTS, kind + 16 * the place (from 0) of a token, the end being one at the text's length:");
        for (int place : new int[] {0, 1, 2, 15, 16, 23, 24, 25, 500, 998, 999}) {
            String blanks = " ".repeat(place);
            Check.due("plan at " + place, plan(blanks + "x"), 1 + 16 * place);
            Check.due("body at " + place, body(blanks + "x"), 1 + 16 * place);
            Check.due("reader at " + place, reader(blanks + "x"), 1 + 16 * place);
        }
        for (int length : new int[] {3, 4, 24, 25, 999, 1000}) {
            Check.due("end of a plan", plan("ask" + " ".repeat(length - 3)), 1 + 16 * length);
        }
        for (int length : new int[] {4, 5, 24, 25, 999, 1000}) {
            Check.due("end of a body", body("line" + "\n".repeat(length - 4)), 1 + 16 * length);
            Check.due("end of a reader", reader("says" + " ".repeat(length - 4)), 1 + 16 * length);
        }
        Check.due("4 at a place", plan(" ".repeat(980) + "ask known 9;"), 4 + 16 * 990);
        Check.due("5 at the last place", body("line 0 = not not not not not" + " ".repeat(971) + "1"), 5 + 16 * 999);
        Check.due("what was cut off", plan("ask plain;".repeat(2) + " ".repeat(977) + "ask plain;"), 1 + 16 * 1000);
        Check.due("a token at two feeds", plan("ask plain;ask plain;ask plain;"), 0);
    }

    private static void firstAndLeast() {
        Check.says("of the first token from the left that is wrong the least:");
        Check.due("4 ahead of 1", plan("ask known 9 #"), 4 + 16 * 10);
        Check.due("1 ahead of 4", plan("ask # known 9;"), 1 + 16 * 4);
        Check.due("1 ahead of 5", plan("ask plain;".repeat(11) + "ask x; ask plain; ask plain;"), 1 + 16 * 114);
        Check.due("5 ahead of 1", plan("ask plain;".repeat(12) + "ask #"), 5 + 16 * 120);
        Check.due("3 ahead of 1", body("line 0 = 1; line 0 = 12345;"), 3 + 16 * 17);
        Check.due("4 ahead of 3", body("line 0 = 1; line 3 = 1; line 0 = 1;"), 4 + 16 * 17);
        Check.due("1 ahead of 3", body("line 0 = 1 line 0 = 1;"), 1 + 16 * 11);
        Check.due("4 of two", plan("ask known 9; ask known 9;"), 4 + 16 * 10);
        Check.due("5 ahead of 4", reader("says when (((((plain 3)))));"), 5 + 16 * 15);
        Check.due("4 ahead of 5", reader("says when plain 3 + (((((1)))));"), 4 + 16 * 16);
        String[] alone = {")", "and", "or", "<", "=", "+", "-", "*", ";", "#", "12345", "abcdefghi", "line", "x", ""};
        for (String token : alone) {
            Check.due("1 is less than 5 at " + token, body("line 0 = ( not ( not (" + token), 1 + 16 * 22);
            Check.due("of a reader at " + token, reader("says when (((((" + token), 1 + 16 * 15);
        }
        for (String token : new String[] {"file", "asks", "others"}) {
            Check.due("1 is less than 5 at " + token, body("line 0 = (((((" + token), 1 + 16 * 14);
        }
        for (String token : new String[] {"heard", "fear", "done", "trick", "habit", "place", "noise"}) {
            Check.due("1 is less than 5 at " + token, reader("says when (((((" + token), 1 + 16 * 15);
        }
        for (String token : new String[] {"1", "fear", "not", "(", "known", "real"}) {
            Check.due("5 alone at " + token, body("line 0 = (((((" + token), 5 + 16 * 14);
        }
        for (String token : new String[] {"1", "file", "asks", "not", "(", "known", "others"}) {
            Check.due("5 alone at " + token, reader("says when (((((" + token), 5 + 16 * 15);
        }
    }

    private interface Reading {
        int fault(String text);
    }

    /** Behind the beginning of a text can stand what is told, end for the end, and nothing else. */
    private static void stands(Reading reading, String ahead, String told) {
        List<String> may = List.of(told.split(" "));
        for (String token : TOKENS) {
            String text = ahead + " " + token;
            int here = 1 + 16 * (ahead.length() + 1);
            boolean can = may.contains(token.isEmpty() ? "end" : token);
            int fault = reading.fault(text);
            if (can && token.isEmpty()) {
                Check.due("the end behind " + ahead, fault, 0);
            } else if (can) {
                Check.due(token + " can stand behind " + ahead, fault == 0 || fault == 1 + 16 * text.length(), true);
            } else {
                Check.due(token + " can't stand behind " + ahead, fault, here);
            }
        }
    }

    private static void standing() {
        Check.says("1 it is none, or can't stand there (the end of a PLAN without a QUESTION, too)");
        for (String blanks : new String[] {"", " ", "\n", " \n \n"}) {
            Check.due("the end of a plan", plan(blanks), 1 + 16 * blanks.length());
            Check.due("the end of a body", body(blanks), 0);
            Check.due("the end of a reader", reader(blanks), 0);
        }
        Reading plan = LanguageEdges::plan;
        stands(plan, "", "ask");
        stands(plan, "ask", "plain shaming asked known");
        stands(plan, "ask plain", "for ;");
        stands(plan, "ask known", "1");
        stands(plan, "ask known 1", "for ;");
        stands(plan, "ask shaming for", "1");
        stands(plan, "ask known 1 for 9", ";");
        stands(plan, "ask asked;", "ask end");
        Reading body = LanguageEdges::body;
        stands(body, "", "line end");
        stands(body, "line", "1");
        stands(body, "line 1", "=");
        stands(body, "line 1 =", PARTS_OF_BODY);
        stands(body, "line 1 = not", PARTS_OF_BODY);
        stands(body, "line 1 = (", PARTS_OF_BODY);
        stands(body, "line 1 = 1 and", PARTS_OF_BODY);
        stands(body, "line 1 = 1 <", PARTS_OF_BODY);
        stands(body, "line 1 = 1 +", PARTS_OF_BODY);
        stands(body, "line 1 = 1 *", PARTS_OF_BODY);
        stands(body, "line 1 = 1", "and or < = + - * ;");
        stands(body, "line 1 = fear", "and or < = + - * ;");
        stands(body, "line 1 = not 1", "and or < = + - * ;");
        stands(body, "line 1 = (1)", "and or < = + - * ;");
        stands(body, "line 1 = (1", "and or < = + - * )");
        stands(body, "line 1 = 1 < 1", "and or + - * ;");
        stands(body, "line 1 = 1 = 1 * 1", "and or + - * ;");
        stands(body, "line 1 = 1 < 1 or 1", "and or < = + - * ;");
        stands(body, "line 1 = (1 < 1)", "and or < = + - * ;");
        stands(body, "line 2 = 1;", "line end");
        Reading reader = LanguageEdges::reader;
        stands(reader, "", "says end");
        stands(reader, "says", "when");
        stands(reader, "says when", PARTS_OF_READER);
        stands(reader, "says when not", PARTS_OF_READER);
        stands(reader, "says when 1 or", PARTS_OF_READER);
        stands(reader, "says when plain", "1");
        stands(reader, "says when others", "1");
        stands(reader, "says when others 2", "and or < = + - * ;");
        stands(reader, "says when file", "and or < = + - * ;");
        stands(reader, "says when (asks", "and or < = + - * )");
        stands(reader, "says when 1;", "says end");
    }

    private static void toldAndTooMany() {
        Check.says("3 the N of a line that is told");
        for (int first = 0; first <= 2; first++) {
            for (int second = 0; second <= 2; second++) {
                String text = "line " + first + " = 1; line " + second + " = 2;";
                Check.due(text, body(text), first == second ? 3 + 16 * 17 : 0);
                String zeros = "line " + first + " = 1; line 000" + second + " = 2;";
                Check.due(zeros, body(zeros), first == second ? 3 + 16 * 17 : 0);
            }
        }
        PenThatJumps x = new PenThatJumps();
        Check.due("a line", Check.body(x, "line 1 = 1;"), 0);
        Check.due("told by an earlier body", Check.body(x, "line 1 = 2;"), 0);
        Check.due("told twice", Check.body(x, "line 0 = 1; line 0 = 2;"), 3 + 16 * 17);
        Check.due("told by a wrong one", Check.body(x, "line 0 = 2;"), 0);
        Check.says("4 a NUMBER that is not as told");
        Check.due("of a line", body("line 3 = 1;"), 4 + 16 * 5);
        Check.due("of known", plan("ask known 9;"), 4 + 16 * 10);
        Check.due("of for", plan("ask known 8 for 10;"), 4 + 16 * 16);
        Check.due("of for, 0", plan("ask known 8 for 0;"), 4 + 16 * 16);
        Check.due("of a fact", reader("says when 9 + real 3;"), 4 + 16 * 19);
        Check.due("any of an E", body("line 2 = 9999 + 0 + 3 + 10;"), 0);
        Check.says("5 one too many: the word ask of a 13th QUESTION, says of a seventh;");
        String ask = "ask known 0;";
        Check.due("ask alone", plan(ask.repeat(12) + "ask"), 5 + 16 * 144);
        Check.due("a 13th question", plan(ask.repeat(12) + "\n" + ask), 5 + 16 * 145);
        Check.due("a 14th question", plan(ask.repeat(14)), 5 + 16 * 144);
        String says = "says when 1;";
        Check.due("says alone", reader(says.repeat(6) + "says"), 5 + 16 * 72);
        Check.due("a seventh line", reader(says.repeat(6) + " " + says), 5 + 16 * 73);
        Check.due("an eighth line", reader(says.repeat(8)), 5 + 16 * 72);
        for (String token : TOKENS) {
            int end = token.isEmpty() ? 0 : 1;
            Check.due("behind twelve, " + token, plan(ask.repeat(12) + token), token.equals("ask") ? 5 + 16 * 144
                    : end + end * 16 * 144);
            Check.due("behind six, " + token, reader(says.repeat(6) + token), token.equals("says") ? 5 + 16 * 72
                    : end + end * 16 * 72);
        }
        Check.says("not, or a PART, within 5 others.");
        Check.due("not", body("line 0 = not not not not not not 1;"), 5 + 16 * 29);
        Check.due("a number", body("line 0 = not not not not not 1;"), 5 + 16 * 29);
        Check.due("a fact", body("line 0 = not not not not not fear;"), 5 + 16 * 29);
        Check.due("( )", body("line 0 = not not not not not (1);"), 5 + 16 * 29);
        Check.due("not in ( )", body("line 0 = ((((( not 1 )))));"), 5 + 16 * 15);
        Check.due("within 4", body("line 0 = not not not not fear;"), 0);
        Check.due("( ) within 3", body("line 0 = not not not (1);"), 0);
    }

    private static void fromThenOn() {
        Check.says("Without a FAULT it is the PLAN (0 to 3), the BODY, the READER (0 to 3) from then on.");
        Check.range("plan", 0, 3, v -> Check.plan(new PenThatJumps(), v, "ask plain;") == 0);
        Check.range("reader", 0, 3, v -> Check.reader(new PenThatJumps(), v, "says when 1;") == 0);
        PenThatJumps x = somebody(5, false, 0, false);
        for (int i = 0; i < 4; i++) {
            Check.due("plan " + i, Check.plan(x, i, "ask plain for " + (i + 2) + ";"), 0);
            Check.due("reader " + i, Check.reader(x, i, "says when file = " + i + ";"), 0);
            Check.due("plans", x.count(1), i + 1);
        }
        x.sit(0, 0, 0);
        for (int i = 0; i < 4; i++) {
            Check.due("each plan is another one", x.question(i, 0, 2), i + 2);
            Check.due("each reader is another one", x.leans(0, i), 1 << i + 9);
        }
        Check.due("a new plan", Check.plan(x, 2, "ask asked for 9; ask plain;"), 0);
        Check.due("in place of the old", x.question(2, 0, 2), 9);
        Check.due("with its questions", x.question(2, 1, 2), 1);
        Check.due("as many plans", x.count(1), 4);
        Check.due("another stays", x.question(3, 0, 2), 5);
        Check.due("a shorter plan", Check.plan(x, 2, "ask shaming;"), 0);
        Check.due("is whole", x.question(2, 1, 0), -1);
        Check.due("a new reader", Check.reader(x, 2, "says when file = 9; says when file = 8;"), 0);
        Check.due("in place of the old", x.leans(0, 2), 1 << 18 | 1 << 17);
        Check.due("another stays", x.leans(0, 1), 1 << 10);
        Check.due("an empty reader", Check.reader(x, 2, ""), 0);
        Check.due("without lines", x.leans(0, 2), 0);
        Check.due("a body", Check.body(x, "line 0 = 1; line 1 = fear;"), 0);
        Check.due("its lines", x.jump(x.sit(0, 0, 0), 0, 1), 5);
        Check.due("a new body", Check.body(x, "line 0 = 2;"), 0);
        Check.due("in place of the old", x.jump(x.sit(0, 0, 0), 0, 1), 0);
        Check.due("its line", x.jump(2, 0, 0), 2);
        Check.due("an empty body", Check.body(x, ""), 0);
        Check.due("does not jump", x.jump(x.sit(0, 0, 0), 0, 0), 0);
        PenThatJumps y = somebody(0, false, 0, false);
        Check.plan(y, 0, "ask plain;");
        for (int i = 0; i < 24; i++) {
            Check.due("a long body, again and again", Check.body(y, "line0=" + "1+".repeat(150) + i + "-150;"), 0);
            Check.due("each of them", y.jump(y.sit(0, 0, 0), 0, 0), i);
        }
    }
}
