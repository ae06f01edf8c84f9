/** Promises 16 to 18: what can be told apart at all, and the best of a plan. */
public final class ApartTest {
    public static void main(String[] args) {
        apart();
        same();
        best();
        bestByHabitAndPlace();
        bestAtItsLargest();
        Check.end();
    }

    private static void apart() {
        PenThatJumps x = new PenThatJumps();
        Check.due("no plan", x.apart(0, 0, 0), -1);
        Check.plan(x, 0, "ask plain; ask known 0;");
        Check.due("without a body", x.apart(0, 0, 9), 0);
        Check.body(x, "line 0 = fear;");
        Check.due("the same fear", x.apart(0, 4, 4), 0);
        Check.due("another one", x.apart(0, 4, 5), 8);
        Check.body(x, "line 0 = fear * plain; line 1 = heard * (noise < 3); line 2 = 5;");
        Check.due("by line and noise", x.apart(0, 4, 4), 3);
        Check.due("by both", x.apart(0, 4, 5), 7);
        x.item(1);
        Check.due("another true item", x.apart(0, 4, 4), 0);
        x.person(0, 4, true, 511, true);
        Check.body(x, "line 0 = trick; line 1 = heard;");
        Check.due("they heard nothing and do not trick", x.apart(0, 4, 4), 0);
        Check.body(x, "line 0 = 200 * done + 150; line 1 = done - 5; line 2 = fear - 3;");
        Check.due("jumps, not what is beyond them", x.apart(0, 3, 0), 0);
        Check.body(x, "line 0 = done = place; line 1 = done + fear = 5 + habit;");
        Check.due("by place and fear", x.apart(0, 4, 5), 8);
        Check.due("fear -1", x.apart(0, -1, 0), -1);
        Check.due("fear 10", x.apart(0, 10, 0), -1);
        Check.due("other fear -1", x.apart(0, 0, -1), -1);
        Check.due("other fear 10", x.apart(0, 0, 10), -1);
        Check.due("plan 1", x.apart(1, 0, 0), -1);
        Check.due("plan -1", x.apart(-1, 0, 0), -1);
        Check.due("plan 4", x.apart(4, 0, 0), -1);
    }

    private static void same() {
        PenThatJumps x = new PenThatJumps();
        Check.due("no plan", x.same(0, 0), -1);
        Check.plan(x, 0, "ask asked;");
        Check.due("without a body", x.same(0, 0), 1023);
        Check.body(x, "line 0 = fear;");
        Check.due("by fear", x.same(0, 9), 512);
        Check.due("by fear 0", x.same(0, 0), 1);
        Check.body(x, "line 0 = fear + 3 * done;");
        Check.due("he looks like one of more fear", x.same(0, 2), 1 << 5);
        Check.due("and none is like him", x.same(0, 7), 0);
        Check.body(x, "line 0 = fear < 4;");
        Check.due("some", x.same(0, 3), 15);
        Check.due("and the others", x.same(0, 4), 1023 - 15);
        Check.due("fear -1", x.same(0, -1), -1);
        Check.due("fear 10", x.same(0, 10), -1);
        Check.due("plan 1", x.same(1, 0), -1);
        Check.due("plan -1", x.same(-1, 0), -1);
        Check.due("plan 4", x.same(4, 0), -1);
    }

    private static void best(PenThatJumps x, int fear, int minutes, int power, int bits, int used) {
        String call = "best in " + minutes + ", ";
        Check.due(call + "power", x.best(0, fear, minutes, 0), power);
        Check.due(call + "questions", x.best(0, fear, minutes, 1), bits);
        Check.due(call + "minutes", x.best(0, fear, minutes, 2), used);
    }

    private static void best() {
        PenThatJumps x = new PenThatJumps();
        Check.due("no plan", x.best(0, 0, 1, 0), -1);
        Check.plan(x, 0, "ask plain for 2; ask shaming for 3; ask asked for 4; ask known 0 for 5; ask known 1 for 1;");
        best(x, 0, 99, 0, 0, 0);
        Check.body(x, "line 0 = 50 - done * (plain * 10 + shaming * 10 + asked * 25 + real * 30);"
                + "line 1 = done * real * 5; line 2 = done * noise;");
        best(x, 0, 1, 0, 0, 0);
        best(x, 0, 2, 10, 1, 2);
        best(x, 0, 3, 10, 1, 2);
        best(x, 0, 4, 25, 4, 4);
        best(x, 0, 5, 35, 8, 5);
        best(x, 0, 6, 35, 5, 6);
        best(x, 0, 7, 45, 9, 7);
        best(x, 0, 8, 45, 9, 7);
        best(x, 0, 9, 60, 12, 9);
        best(x, 0, 13, 70, 13, 11);
        best(x, 0, 99, 80, 15, 14);
        Check.body(x, "line 0 = done * fear * fear * 20;");
        best(x, 0, 99, 0, 0, 0);
        best(x, 1, 99, 100, 31, 15);
        best(x, 9, 1, 99, 16, 1);
        Check.body(x, "line 0 = done * noise; line 1 = done * trick; line 2 = (1 - done) * trick;");
        best(x, 0, 99, 0, 0, 0);
        x.item(1);
        Check.body(x, "line 0 = heard;");
        best(x, 0, 99, 1, 16, 1);
        int[][] wrong = {{1, 0, 1, 0}, {-1, 0, 1, 0}, {4, 0, 1, 0}, {0, -1, 1, 0}, {0, 10, 1, 0}, {0, 0, 0, 0},
            {0, 0, 100, 0}, {0, 0, 1, 3}, {0, 0, 1, -1}, {0, 0, Integer.MIN_VALUE, 0}};
        for (int[] w : wrong) {
            Check.due("best of what is not", x.best(w[0], w[1], w[2], w[3]), -1);
        }
    }

    /** What is left out is not asked: those behind it have a lower place, and less habit. */
    private static void bestByHabitAndPlace() {
        PenThatJumps x = new PenThatJumps();
        Check.plan(x, 0, "ask asked; ask asked; ask plain; ask asked;");
        Check.body(x, "line 0 = done * (10 - 9 * habit) * asked;");
        best(x, 0, 9, 11, 3, 2);
        best(x, 0, 1, 10, 1, 1);
        Check.body(x, "line 0 = done * (10 - 20 * habit) * asked;");
        best(x, 0, 9, 10, 1, 1);
        Check.body(x, "line 0 = done * (20 - 15 * place);");
        best(x, 0, 9, 25, 3, 2);
        Check.body(x, "line 0 = done * (habit = 0) * asked * 5 + done * plain * (place = 0) * 9;");
        best(x, 0, 9, 14, 12, 2);
        Check.body(x, "line 0 = done * place;");
        best(x, 0, 9, 6, 15, 4);
        best(x, 0, 3, 3, 7, 3);
    }

    private static void bestAtItsLargest() {
        PenThatJumps x = new PenThatJumps();
        Check.plan(x, 0, "ask asked for 9;".repeat(12));
        Check.body(x, "line 0 = 99 * done; line 1 = 99 - 99 * done; line 2 = 500 * done;");
        best(x, 0, 99, 3 * 99 * 11, 2047, 99);
        best(x, 0, 8, 0, 0, 0);
        Check.plan(x, 0, "ask asked for 8;".repeat(12));
        best(x, 0, 99, 3 * 99 * 12, 4095, 96);
    }
}
