/** Promises 5, 6 and 7: texts that are read, and their faults. */
public final class LanguageTest {
    public static void main(String[] args) {
        plans();
        bodies();
        readers();
        values();
        depth();
        keptOnFault();
        longest();
        Check.end();
    }

    /** A fault of a kind at the first place of some signs in a text. */
    private static int fault(int kind, String text, String signs) {
        return kind + 16 * text.indexOf(signs);
    }

    private static void planFault(String text, int kind, String signs) {
        Check.due("plan of " + text, Check.plan(new PenThatJumps(), 0, text), fault(kind, text, signs));
    }

    private static void bodyFault(String text, int kind, String signs) {
        Check.due("body of " + text, Check.body(new PenThatJumps(), text), fault(kind, text, signs));
    }

    private static void readerFault(String text, int kind, String signs) {
        Check.due("reader of " + text, Check.reader(new PenThatJumps(), 0, text), fault(kind, text, signs));
    }

    private static void planEnd(String text) {
        Check.due("plan of " + text, Check.plan(new PenThatJumps(), 0, text), 1 + 16 * text.length());
    }

    private static void bodyEnd(String text) {
        Check.due("body of " + text, Check.body(new PenThatJumps(), text), 1 + 16 * text.length());
    }

    private static void plans() {
        PenThatJumps x = new PenThatJumps();
        Check.due("no blanks", Check.plan(x, 0, "ask plain;ask known8for9;ask\nshaming for 0001;"), 0);
        Check.due("minutes", x.question(0, 1, 2), 9);
        Check.due("item", x.question(0, 1, 1), 8);
        Check.due("number with zeros", x.question(0, 2, 2), 1);
        Check.due("plan -1", Check.plan(x, -1, "ask plain;"), -1);
        Check.due("plan 4", Check.plan(x, 4, "ask plain;"), -1);
        Check.due("plan most", Check.plan(x, Integer.MAX_VALUE, "ask plain;"), -1);
        String twelve = "ask plain;".repeat(12);
        Check.due("twelve questions", Check.plan(x, 1, twelve), 0);
        Check.due("the twelfth", x.question(1, 11, 0), 0);
        Check.due("a thirteenth", Check.plan(x, 1, twelve + "ask plain;"), 16 * 120 + 5);
        Check.due("no thirteenth", Check.plan(x, 1, twelve + "asks plain;"), 16 * 120 + 1);
        Check.due("blanks behind", Check.plan(x, 1, twelve + " \n"), 0);
        planEnd("");
        planEnd("  \n ");
        planEnd("ask");
        planEnd("ask known");
        planEnd("ask known 3");
        planEnd("ask plain for");
        planEnd("ask plain for 3  ");
        planFault("plain;", 1, "plain");
        planFault("ask real;", 1, "real");
        planFault("ask fear;", 1, "fear");
        planFault("ask ask;", 1, "ask;");
        planFault("ask for 3;", 1, "for");
        planFault("ask known for 3;", 1, "for");
        planFault("ask known 9;", 4, "9");
        planFault("ask known 10;", 4, "10");
        planFault("ask known 12345;", 1, "12345");
        planFault("ask plain 3;", 1, "3");
        planFault("ask plain for 0;", 4, "0");
        planFault("ask plain for 10;", 4, "10");
        planFault("ask plain for plain;", 1, "plain;");
        planFault("ask plain for 3 for 3;", 1, "for 3;");
        planFault("ask plain ask plain;", 1, "ask plain;");
        Check.due("plan with an empty question", Check.plan(x, 1, "ask plain;;"), 16 * 10 + 1);
        planFault("ask Plain;", 1, "Plain");
        planFault("ask shamings;", 1, "shamings");
        planFault("ask shamingsh;", 1, "shamingsh");
        planFault("ask plain. ", 1, ".");
    }

    private static void bodies() {
        PenThatJumps x = new PenThatJumps();
        Check.due("an empty body", Check.body(x, ""), 0);
        Check.due("blanks", Check.body(x, " \n "), 0);
        Check.due("lines in any order", Check.body(x, "line 2=1;line 0=fear;line 1=2;"), 0);
        Check.due("three lines", x.count(7), 3);
        Check.due("in place of the last", Check.body(x, "line 1 = 0;"), 0);
        Check.due("one line", x.count(7), 1);
        Check.due("an empty one again", Check.body(x, " "), 0);
        Check.due("no line", x.count(7), 0);
        bodyFault("line 3 = 1;", 4, "3");
        bodyFault("line 9999 = 1;", 4, "9999");
        bodyFault("line 12345 = 1;", 1, "12345");
        bodyFault("line = 1;", 1, "=");
        bodyFault("line fear = 1;", 1, "fear");
        bodyFault("line 0 1;", 1, "1");
        bodyFault("line 0 < 1;", 1, "<");
        bodyFault("line 0 = ;", 1, ";");
        bodyFault("line 0 = 1 line 1 = 2;", 1, "line 1");
        bodyFault("line 0 = 1; line 1 = 2; line 0001 = 3;", 3, "0001");
        bodyFault("line 0 = 1; line 1 = 1; line 2 = 1; line 3 = 1;", 4, "3");
        bodyFault("lines 0 = 1;", 1, "lines");
        bodyFault("says when 1;", 1, "says");
        bodyFault("line 0 = 1 < 2 < 3;", 1, "< 3");
        bodyFault("line 0 = 1 = 2 = 3;", 1, "= 3");
        bodyFault("line 0 = - 1;", 1, "-");
        bodyFault("line 0 = 1 + + 2;", 1, "+ 2");
        bodyFault("line 0 = 1 not 2;", 1, "not");
        bodyFault("line 0 = (1;", 1, ";");
        bodyFault("line 0 = 1);", 1, ")");
        bodyFault("line 0 = ();", 1, ")");
        bodyFault("line 0 = and;", 1, "and");
        bodyFault("line 0 = 1 and or 1;", 1, "or");
        bodyFault("line 0 = file;", 1, "file");
        bodyFault("line 0 = asks;", 1, "asks");
        bodyFault("line 0 = others;", 1, "others");
        bodyFault("line 0 = plain 0;", 1, "0;");
        bodyFault("line 0 = 1x;", 1, "x");
        bodyFault("line 0 = 1 / 2;", 1, "/");
        bodyFault("line 0 = 99999;", 1, "99999");
        bodyFault("line 0 = abcdefghi;", 1, "abcdefghi");
        bodyFault("line 0 = fears;", 1, "fears");
        bodyFault("line 0 = fearz;", 1, "fearz");
        bodyFault("line 0 = afear;", 1, "afear");
        bodyFault("line 0 = fea\nr;", 1, "fea");
        bodyFault("line 0 = Fear;", 1, "Fear");
        bodyFault("line 0 = 1; x", 1, "x");
        bodyEnd("line");
        bodyEnd("line 0");
        bodyEnd("line 0 =");
        bodyEnd("line 0 = not ");
        bodyEnd("line 0 = (1 ");
        bodyEnd("line 0 = 1 +\n");
        bodyEnd("line 0 = 1  ");
    }

    private static void readers() {
        PenThatJumps x = new PenThatJumps();
        String line = "says when 1;";
        Check.due("an empty reader", Check.reader(x, 0, ""), 0);
        Check.due("six lines", Check.reader(x, 3, line.repeat(6)), 0);
        Check.due("a seventh", Check.reader(x, 3, line.repeat(7)), 16 * 72 + 5);
        Check.due("no seventh", Check.reader(x, 3, line.repeat(6) + "when 1;"), 16 * 72 + 1);
        Check.due("reader 4", Check.reader(x, 4, line), -1);
        Check.due("reader -1", Check.reader(x, -1, line), -1);
        Check.due("all facts", Check.reader(x, 1, "says when file + asks + plain 0 + shaming 1 + asked 2"
                + "+ known0 + real 1 + others 002;"), 0);
        readerFault("says 1;", 1, "1");
        readerFault("when 1;", 1, "when");
        readerFault("says when;", 1, ";");
        readerFault("line 0 = 1;", 1, "line");
        readerFault("says when noise;", 1, "noise");
        readerFault("says when heard 0;", 1, "heard");
        readerFault("says when plain;", 1, ";");
        readerFault("says when plain 3;", 4, "3");
        readerFault("says when others 9999;", 4, "9999");
        readerFault("says when others 10000;", 1, "10000");
        readerFault("says when file 0;", 1, "0");
        readerFault("says when plain (0);", 1, "(");
        readerFault("says when plain 0 1;", 1, "1");
        readerFault("says when 1 ; says when plain 0 + known 7 ; says", 4, "7");
    }

    /** What an E comes to on line 0 at a first known question of the true item by one of fear 5 who has done it. */
    private static int value(String e) {
        PenThatJumps x = new PenThatJumps();
        x.person(0, 5, true, 0, false);
        Check.due("plan", Check.plan(x, 0, "ask known 0;"), 0);
        Check.due("body of " + e, Check.body(x, "line 0 = " + e + ";"), 0);
        return x.jump(x.sit(0, 0, 0), 0, 0);
    }

    private static void values() {
        String[] texts = {"9", "2 + 3 * 4", "(2 + 3) * 4", "9 - 3 - 2", "9 - (3 - 2)", "2 * 3 * 4",
            "3 < 4", "4 < 4", "4 < 3", "4 = 4", "4 = 5", "1 + 2 < 2 * 2", "2 and 3", "2 and 0", "0 or 7", "0 or 0",
            "1 or 1 and 0", "1 or (1 and 0)", "0 and 1 or 1", "not 0", "not 7", "not not 7", "not 0 + 5",
            "not (0 + 5)", "not 0 * 9", "5 - 9", "0 - 1 < 0", "99", "100", "9999", "fear", "fear * fear",
            "(1 < 2) = 1", "1 < 2 and 2 < 3", "0007", "3and 4", "1 = 1 or 2", "fear = 5 and done",
            "9999 * 9999 * 9999 * 9999 < 0", "9999 * 9999 * 9999 < 0", "(65 * 1024) * (65 * 1024) < 0",
            "0 - 2048 * 1024 * 1024 = 2048 * 1024 * 1024"};
        int a = 9999 * 9999 * 9999;
        int[] due = {9, 14, 20, 4, 8, 24,
            1, 0, 0, 1, 0, 1, 1, 0, 1, 0,
            0, 1, 1, 1, 0, 1, 6,
            0, 9, 0, 1, 99, 99, 99, 5, 25,
            1, 1, 7, 1, 1, 1,
            a * 9999 < 0 ? 1 : 0, a < 0 ? 1 : 0, 65 * 1024 * (65 * 1024) < 0 ? 1 : 0, 1};
        Check.due("as many", texts.length, due.length);
        for (int i = 0; i < texts.length; i++) {
            Check.due(texts[i], value(texts[i]), due[i]);
        }
    }

    private static void depth() {
        Check.due("four nots", value("not not not not 5"), 1);
        Check.due("four brackets", value("((((5))))"), 5);
        Check.due("each its own", value("((((5)))) + ((((6))))"), 11);
        Check.due("mixed", value("(not (not 5))"), 1);
        bodyFault("line 0 = not not not not not 5;", 5, "5");
        bodyFault("line 0 = (((((5)))));", 5, "5");
        bodyFault("line 0 = (((((fear)))));", 5, "fear");
        bodyFault("line 0 = ((((( not 5 )))));", 5, "not");
        bodyFault("line 0 = not not not not ( (5));", 5, "(5");
        bodyFault("line 0 = not not not not not and;", 1, "and");
        bodyFault("line 0 = not not not not not 12345;", 1, "12345");
        bodyFault("line 0 = not not not not not file;", 1, "file");
        bodyFault("line 0 = ((((();", 1, ")");
        bodyFault("line 0 = ((((1 + (2;", 5, "2");
        readerFault("says when (((((plain 9)))));", 5, "plain");
    }

    /** Texts of all 1,000 signs, and what is beyond them. */
    private static void longest() {
        PenThatJumps x = new PenThatJumps();
        x.person(0, 5, true, 0, false);
        Check.plan(x, 0, "ask plain;");
        Check.due("1,000 signs", Check.body(x, "line0=" + "1+".repeat(494) + "1-400;x"), 0);
        x.sit(0, 0, 0);
        Check.due("all of them", x.jump(0, 0, 0), 95);
        Check.due("1,001 signs", Check.body(x, "line0=" + "1+".repeat(496) + "1 ;"), 16001);
        Check.due("most depth", Check.body(x, "line0=" + "1or 1=1+1*(".repeat(4) + "1or 1=1+1*1))));"), 0);
        Check.due("many nots", Check.reader(x, 0, "says when " + "not not not not 0+".repeat(54) + "0;"), 0);
    }

    private static void keptOnFault() {
        PenThatJumps x = new PenThatJumps();
        x.person(0, 5, true, 0, false);
        Check.plan(x, 0, "ask asked for 4;");
        Check.body(x, "line 0 = 3; line 1 = 4;");
        Check.reader(x, 0, "says when asked 1 = 4;");
        Check.due("a wrong plan", Check.plan(x, 0, "ask plain; ask"), 16 * 14 + 1);
        Check.due("a wrong body", Check.body(x, "line 2 = 9; line"), 16 * 16 + 1);
        Check.due("a wrong reader", Check.reader(x, 0, "says when 0; says"), 16 * 17 + 1);
        Check.due("the plan stays", x.question(0, 0, 0), 2);
        Check.due("with its minutes", x.question(0, 0, 2), 4);
        Check.due("with its size", x.question(0, 1, 0), -1);
        Check.due("the body stays", x.count(7), 2);
        Check.due("sit", x.sit(0, 0, 0), 0);
        Check.due("as it was", x.jump(0, 0, 1), 4);
        Check.due("without the new line", x.jump(0, 0, 2), 0);
        Check.due("the reader stays", x.says(0, 0, 0), 1);
        Check.due("no plan by a fault", Check.plan(x, 1, "ask"), 49);
        Check.due("none told", x.count(1), 1);
    }
}
