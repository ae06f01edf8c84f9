/** The document's third part: who is apart, who is the same, power and the best of a plan, at their edges. */
final class PlanEdges {
    private PlanEdges() {
    }

    static void all() {
        apart();
        heardNothing();
        same();
        power();
        best();
        ties();
    }

    private static PenThatJumps with(String plan, String body) {
        PenThatJumps x = new PenThatJumps();
        Check.due("plan of " + plan, Check.plan(x, 0, plan), 0);
        Check.due("body of " + body, Check.body(x, body), 0);
        return x;
    }

    private static void apart(String plan, String body, int f, int g, int due) {
        Check.due("apart by " + plan + " under " + body, with(plan, body).apart(0, f, g), due);
    }

    private static void apart() {
        Check.says("APART by a PLAN are one who has DONE it with FEAR f, and one who has not with FEAR g");
        PenThatJumps x = with("ask plain;", "line 0 = fear;");
        Check.rangeOf("f", 0, 9, v -> x.apart(0, v, 0));
        Check.rangeOf("g", 0, 9, v -> x.apart(0, 0, v));
        apart("ask plain;", "line 0 = done * fear;", 9, 0, 4);
        apart("ask plain;", "line 0 = done * fear;", 0, 9, 0);
        apart("ask plain;", "line 0 = (1 - done) * fear;", 9, 0, 0);
        apart("ask plain;", "line 0 = (1 - done) * fear;", 0, 9, 4);
        Check.says("at how many QUESTIONS, LINES and noises (0 to 3) the JUMPS are not the same.");
        apart("ask plain;", "", 0, 9, 0);
        apart("ask plain;", "line 0 = done;", 0, 0, 4);
        for (int noise = 0; noise <= 4; noise++) {
            apart("ask plain;", "line 2 = done * (noise = " + noise + ");", 5, 5, noise < 4 ? 1 : 0);
        }
        for (int line = 0; line < 3; line++) {
            apart("ask plain; ask asked;", "line " + line + " = done * asked;", 5, 5, 4);
        }
        for (int size = 1; size <= 12; size++) {
            String all = "line 0 = done; line 1 = 1 - done; line 2 = 99 * done;";
            apart("ask asked;".repeat(size), all, 9, 9, size * 12);
        }
        apart("ask plain;", "line 0 = 99 + done; line 1 = done - 1; line 2 = 100 - done;", 0, 0, 0);
        apart("ask plain;", "line 0 = 98 + done; line 1 = done; line 2 = 99 - done;", 0, 0, 12);
        apart("ask plain; ask plain; ask plain;", "line 0 = done * (place = 2) + done * (habit = 1);", 0, 0, 8);
        PenThatJumps y = with("ask asked;".repeat(12), "line 0 = done; line 1 = done; line 2 = done;");
        for (int size = 11; size >= 1; size--) {
            Check.due("a long plan", y.apart(0, 5, 5), 144);
            Check.due("none is the same", y.same(0, 5), 0);
            Check.due("its power", y.best(0, 5, 99, 0), 36);
            Check.due("a shorter plan", Check.plan(y, 1, "ask plain;".repeat(size)), 0);
            Check.due("apart by its questions alone", y.apart(1, 5, 5), size * 12);
            Check.due("its power alone", y.best(1, 5, 99, 0), size * 3);
            Check.due("its questions alone", y.best(1, 5, 99, 1), (1 << size) - 1);
        }
    }

    private static void heardNothing() {
        Check.says("(both HEARD nothing, do not TRICK):");
        PenThatJumps x = with("ask plain; ask known 0; ask known 8;", "line 0 = 50 * done * trick + heard;");
        for (int person = 0; person < 8; person++) {
            x.person(person, 5, person % 2 == 0, 511, true);
        }
        Check.due("the true item is known to one", x.apart(0, 5, 5), 4);
        x.item(8);
        Check.due("another one, too", x.apart(0, 5, 5), 4);
        x.item(7);
        Check.due("no other", x.apart(0, 5, 5), 0);
        Check.body(x, "line 0 = 50 * (1 - done) * trick + (1 - done) * heard;");
        Check.due("nor of the other one", x.apart(0, 5, 5), 0);
        Check.due("nor by fear", x.same(0, 5), 1023);
        Check.due("nor power", x.best(0, 5, 99, 0), 0);
    }

    private static void same() {
        Check.says("SAME: the g for which this is 0.");
        PenThatJumps x = with("ask plain; ask asked;", "line 0 = fear;");
        Check.rangeOf("f", 0, 9, v -> x.same(0, v));
        for (int fear = 0; fear <= 9; fear++) {
            Check.due("fear " + fear, x.same(0, fear), 1 << fear);
        }
        Check.body(x, "");
        Check.due("all", x.same(0, 0), 1023);
        Check.due("all of 9", x.same(0, 9), 1023);
        Check.body(x, "line 0 = done;");
        Check.due("none", x.same(0, 0), 0);
        Check.due("none of 9", x.same(0, 9), 0);
        Check.body(x, "line 0 = fear + 9 * done;");
        Check.due("the greatest fear alone", x.same(0, 0), 512);
        Check.due("beyond all fear", x.same(0, 1), 0);
        Check.body(x, "line 0 = fear + 9 * (1 - done);");
        Check.due("the least fear alone", x.same(0, 9), 1);
        Check.due("below all fear", x.same(0, 8), 0);
        Check.body(x, "line 2 = (noise = 3) * asked * fear;");
        Check.due("one question, line and noise tells", x.same(0, 4), 16);
        Check.body(x, "line 1 = 95 + fear;");
        Check.due("not beyond 99", x.same(0, 4), 1023 - 15);
        Check.body(x, "line 1 = fear - 5;");
        Check.due("not below 0", x.same(0, 5), 63);
        int bits = 0;
        Check.body(x, "line 0 = fear * 3 + done * 2 - fear * fear;");
        for (int g = 0; g <= 9; g++) {
            bits |= x.apart(0, 0, g) == 0 ? 1 << g : 0;
        }
        Check.due("as apart says", x.same(0, 0), bits);
    }

    private static void best(PenThatJumps x, int fear, int minutes, int power, int bits, int used) {
        String call = "best with fear " + fear + " in " + minutes + ", ";
        Check.due(call + "power", x.best(0, fear, minutes, 0), power);
        Check.due(call + "questions", x.best(0, fear, minutes, 1), bits);
        Check.due(call + "minutes", x.best(0, fear, minutes, 2), used);
    }

    private static void power() {
        Check.says("POWER of some QUESTIONS of a PLAN, asked in its order, for a FEAR:");
        PenThatJumps x = with("ask plain; ask asked; ask plain; ask shaming;", "line 0 = done * fear;");
        Check.rangeOf("fear", 0, 9, v -> x.best(0, v, 9, 0));
        best(x, 0, 9, 0, 0, 0);
        best(x, 9, 9, 36, 15, 4);
        // Only those that are chosen are asked: places and habits count them alone.
        Check.body(x, "line 0 = done * shaming * (place = 0) * 50 + done * plain * (habit = 0) * (place = 0) * 9;");
        best(x, 5, 9, 50, 8, 1);
        Check.body(x, "line 0 = done * plain * habit * 9 + done * (place = 2) * 5;");
        best(x, 5, 9, 14, 7, 3);
        best(x, 5, 2, 9, 5, 2);
        Check.body(x, "line 0 = done * place;");
        best(x, 5, 4, 6, 15, 4);
        best(x, 5, 3, 3, 7, 3);
        best(x, 5, 1, 0, 0, 0);
        Check.says("the sum over them and over LINES, with noise 0, of how far the JUMPS of one who has DONE it and"
                + " one who has not, both with this FEAR, lie apart.");
        String[] bodies = {"", "line 0 = done * noise;", "line 0 = done * (noise = 0);", "line 0 = 99 * done;",
            "line 0 = 99 - 99 * done;", "line 0 = 9999 * done; line 1 = 9999 - 9999 * done; line 2 = 100 * done;",
            "line 0 = 95 + 9 * done;", "line 0 = 4 - 9 * done;", "line 0 = 30 * done; line 1 = 30 - 30 * done;",
            "line 0 = 3 + 5 * done; line 1 = 9 - 2 * done; line 2 = 7 + done;", "line 2 = fear * done;",
            "line 0 = trick; line 1 = heard;"};
        int[] due = {0, 0, 1, 99, 99, 297, 4, 4, 60, 8, 7, 0};
        for (int i = 0; i < bodies.length; i++) {
            best(with("ask plain;", bodies[i]), 7, 1, due[i], due[i] > 0 ? 1 : 0, due[i] > 0 ? 1 : 0);
        }
        best(with("ask asked;".repeat(12), "line 0 = 99 * done; line 1 = 99 - 99 * done; line 2 = 9999 * done;"),
                0, 99, 12 * 3 * 99, 4095, 12);
        PenThatJumps y = with("ask known 0; ask known 8;", "line 0 = heard;");
        best(y, 0, 9, 1, 1, 1);
        y.item(8);
        best(y, 0, 9, 1, 2, 1);
        y.item(1);
        best(y, 0, 9, 0, 0, 0);
    }

    private static void best() {
        Check.says("BEST in so many MINUTES (1 to 99):");
        PenThatJumps x = with("ask plain for 9;".repeat(11) + "ask asked;", "line 0 = done * (1 + asked);");
        Check.rangeOf("minutes", 1, 99, v -> x.best(0, 0, v, 0));
        best(x, 0, 1, 2, 2048, 1);
        best(x, 0, 9, 2, 2048, 1);
        best(x, 0, 10, 3, 2049, 10);
        best(x, 0, 98, 12, 2048 + 1023, 91);
        best(x, 0, 99, 12, 2048 + 1023, 91);
        Check.says("those whose MINUTES together are not more,");
        PenThatJumps y = with("ask plain for 2; ask asked for 3; ask shaming for 5;",
                "line 0 = done * (10 * plain + 20 * asked + 40 * shaming);");
        int[] power = {0, 10, 20, 20, 40, 40, 50, 60, 60, 70, 70};
        int[] bits = {0, 1, 2, 2, 4, 4, 5, 6, 6, 7, 7};
        int[] used = {0, 2, 3, 3, 5, 5, 7, 8, 8, 10, 10};
        for (int minutes = 1; minutes <= 11; minutes++) {
            best(y, 0, minutes, power[minutes - 1], bits[minutes - 1], used[minutes - 1]);
        }
        best(y, 0, 99, 70, 7, 10);
        PenThatJumps z = with("ask asked for 9;".repeat(12), "line 0 = done;");
        best(z, 0, 8, 0, 0, 0);
        best(z, 0, 9, 1, 1, 9);
        best(z, 0, 17, 1, 1, 9);
        best(z, 0, 18, 2, 3, 18);
        best(z, 0, 98, 10, 1023, 90);
        best(z, 0, 99, 11, 2047, 99);
    }

    private static void ties() {
        Check.says("with the greatest POWER; of equal ones the least as bits.");
        best(with("ask plain;", ""), 0, 99, 0, 0, 0);
        best(with("ask plain; ask plain; ask plain;", "line 0 = done;"), 0, 1, 1, 1, 1);
        best(with("ask plain; ask plain; ask plain;", "line 0 = done;"), 0, 2, 2, 3, 2);
        best(with("ask plain for 9; ask asked;", "line 0 = done;"), 0, 9, 1, 1, 9);
        best(with("ask plain for 9; ask asked;", "line 0 = done;"), 0, 8, 1, 2, 1);
        // One and two together against the third alone: 3 is less than 4.
        best(with("ask plain; ask asked; ask shaming for 2;", "line 0 = done * (1 + shaming);"), 0, 2, 2, 3, 2);
        best(with("ask shaming for 2; ask plain; ask asked;", "line 0 = done * (1 + shaming);"), 0, 2, 2, 1, 2);
        best(with("ask shaming; ask asked; ask plain;", "line 0 = done * asked * 5;"), 0, 99, 5, 2, 1);
        best(with("ask shaming; ask asked; ask known 0;", "line 0 = done * known * 5;"), 0, 99, 5, 4, 1);
        best(with("ask asked;".repeat(12), "line 0 = done * (habit = 0);"), 0, 99, 1, 1, 1);
        best(with("ask asked;".repeat(12), "line 0 = done * (place = 11);"), 0, 99, 1, 4095, 12);
        best(with("ask asked;".repeat(12), "line 0 = done * (place = 10);"), 0, 99, 1, 2047, 11);
        best(with("ask plain;".repeat(11) + "ask asked;", "line 0 = done * asked;"), 0, 99, 1, 2048, 1);
    }
}
