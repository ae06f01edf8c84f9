/** Promises 1 to 4, 8 and 27: what a new object knows, what it is told, and what it counts. */
public final class TellingTest {
    public static void main(String[] args) {
        newObject();
        persons();
        trueItem();
        feeding();
        questions();
        counts();
        Check.end();
    }

    private static void newObject() {
        PenThatJumps x = new PenThatJumps();
        for (int what = 0; what <= 7; what++) {
            Check.due("count of a new object", x.count(what), 0);
        }
        for (int plan = 0; plan < 4; plan++) {
            Check.due("question of a new object", x.question(plan, 0, 0), PenThatJumps.NONE);
        }
        Check.due("mark of a new object", x.mark(0, true), false);
        Check.none("worth of a new object", () -> x.worth(2, 0));
        Check.none("lean of a new object", () -> x.lean(0));
        x.person(0, 9, true, 511, true);
        Check.due("plan", Check.plan(x, 0, "ask known 0;"), 0);
        Check.due("sit without a body", x.sit(0, 0, 0), 0);
        for (int line = 0; line < 3; line++) {
            Check.due("jump without a body", x.jump(0, 0, line), 0);
        }
        for (int reader = 0; reader < 4; reader++) {
            Check.due("says of a reader without lines", x.says(0, reader, 0), 0);
        }
        Check.due("the true item is 0 at first", truth(x), 0);
    }

    /** The true item, as a body shows it. */
    private static int truth(PenThatJumps x) {
        Check.plan(x, 3, "ask known 0; ask known 1; ask known 2; ask known 3; ask known 4;"
                + "ask known 5; ask known 6; ask known 7; ask known 8;");
        Check.body(x, "line 0 = real;");
        x.person(7, 0, false, 0, false);
        int sitting = x.sit(7, 3, 0);
        int found = PenThatJumps.NONE;
        for (int i = 0; i < 9; i++) {
            if (x.jump(sitting, i, 0) == 1) {
                Check.due("only one item is true", found, PenThatJumps.NONE);
                found = i;
            }
        }
        return found;
    }

    private static void persons() {
        PenThatJumps x = new PenThatJumps();
        Check.due("person 0", x.person(0, 0, false, 0, false), true);
        Check.due("person 7", x.person(7, 9, true, 511, true), true);
        Check.due("person -1", x.person(-1, 0, true, 0, true), false);
        Check.due("person 8", x.person(8, 0, true, 0, true), false);
        Check.due("person least", x.person(Integer.MIN_VALUE, 0, true, 0, true), false);
        Check.due("fear -1", x.person(1, -1, true, 0, true), false);
        Check.due("fear 10", x.person(1, 10, true, 0, true), false);
        Check.due("heard -1", x.person(1, 0, true, -1, true), false);
        Check.due("heard 512", x.person(1, 0, true, 512, true), false);
        Check.due("only those are told", x.count(0), 2);
        Check.due("one has done it", x.count(3), 1);
        Check.due("a wrong fear", x.person(7, 10, false, 0, false), false);
        Check.due("changes nothing", x.count(3), 1);
        Check.due("told anew", x.person(7, 1, false, 0, false), true);
        Check.due("in place of what was told", x.count(3), 0);
        Check.due("the same persons", x.count(0), 2);
    }

    private static void trueItem() {
        PenThatJumps x = new PenThatJumps();
        for (int item = 0; item <= 8; item++) {
            Check.due("item", x.item(item), true);
            Check.due("the true item", truth(x), item);
        }
        Check.due("item -1", x.item(-1), false);
        Check.due("item 9", x.item(9), false);
        Check.due("item most", x.item(Integer.MAX_VALUE), false);
        Check.due("the true item stays", truth(x), 8);
    }

    private static void feeding() {
        PenThatJumps x = new PenThatJumps();
        Check.due("nothing fits", x.feed(0, -1L, 0x09_0B_0D_1F_7F_80_FE_FFL), 0);
        Check.due("the edges fit", x.feed(0x0A_20_7E_00_00_00_00_00L, 0, 0), 3);
        Check.due("some of them", x.feed(0x41_00_42_FF_43_1F_44_7FL, 0, 0x45L), 8);
        Check.due("count", x.count(6), 8);
        Check.due("what reads takes it", x.body(), 2 * 16 + 1);
        Check.due("it is empty", x.count(6), 0);
        for (int i = 1; i <= 41; i++) {
            Check.due("24 signs more", Check.feed(x, "                        "), i * 24);
        }
        Check.due("the thousandth is the last", Check.feed(x, "   ;     x        y     "), 1000);
        Check.due("and no more", Check.feed(x, "z"), 1000);
        Check.due("those in order came first", x.body(), 16 * 987 + 1);
        Check.feed(x, "line 0 = 7;");
        Check.due("the highest byte first", x.body(), 0);
        Check.due("count of lines", x.count(7), 1);
        Check.feed(x, "ask plain;");
        Check.due("no such plan", x.plan(4), -1);
        Check.due("takes it too", x.count(6), 0);
        Check.feed(x, "says when 1;");
        Check.due("no such reader", x.reader(-1), -1);
        Check.due("takes it as well", x.count(6), 0);
    }

    private static void questions() {
        PenThatJumps x = new PenThatJumps();
        Check.due("plan", Check.plan(x, 2, "ask plain; ask shaming for 9; ask asked for 1;"
                + " ask known 0; ask known 8 for 2;"), 0);
        int[][] due = {{0, -1, 1}, {1, -1, 9}, {2, -1, 1}, {3, 0, 1}, {3, 8, 2}};
        for (int i = 0; i < due.length; i++) {
            for (int what = 0; what < 3; what++) {
                Check.due("question " + i + " what " + what, x.question(2, i, what), due[i][what]);
            }
        }
        Check.due("question 5", x.question(2, 5, 0), -1);
        Check.due("question 5, minutes", x.question(2, 5, 2), -1);
        Check.due("question -1", x.question(2, -1, 0), -1);
        Check.due("question most", x.question(2, Integer.MAX_VALUE, 2), -1);
        Check.due("what 3", x.question(2, 0, 3), -1);
        Check.due("what -1", x.question(2, 0, -1), -1);
        Check.due("plan not told", x.question(1, 0, 0), -1);
        Check.due("plan -1", x.question(-1, 0, 0), -1);
        Check.due("plan 4", x.question(4, 0, 0), -1);
        Check.due("a shorter plan", Check.plan(x, 2, "ask asked;"), 0);
        Check.due("is in its place", x.question(2, 0, 0), 2);
        Check.due("whole", x.question(2, 1, 0), -1);
    }

    private static void counts() {
        PenThatJumps x = new PenThatJumps();
        x.person(3, 1, true, 0, false);
        x.person(4, 1, true, 0, false);
        x.person(5, 1, false, 0, false);
        Check.plan(x, 0, "ask plain;");
        Check.plan(x, 3, "ask plain;");
        Check.plan(x, 2, "ask;");
        x.sit(3, 0, 0);
        x.confess(true, true, true, 5);
        x.confess(false, false, false, 7);
        x.confess(false, false, true, 0);
        x.paper(true, 10, 0);
        x.paper(false, 3, 3);
        Check.body(x, "line 2 = 1; line 0 = 0;");
        Check.feed(x, "abc");
        int[] due = {3, 2, 1, 2, 12, 13, 3, 2};
        for (int what = 0; what < due.length; what++) {
            Check.due("count " + what, x.count(what), due[what]);
        }
        Check.due("count -1", x.count(-1), -1);
        Check.due("count 8", x.count(8), -1);
        Check.due("count least", x.count(Integer.MIN_VALUE), -1);
    }
}
