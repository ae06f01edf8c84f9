/** An object that was told some of everything, and all that can be asked of it: by that it is seen what a call leaves. */
final class Portrait {
    /** What is on the tape of a rich object: a body, so that it is seen whether the tape is still the same. */
    static final String TAPE = "line 1 = 41; line 2 = fear;";

    private Portrait() {
    }

    /** Some of everything, with gaps: persons 0, 1, 6, plans 0, 2, readers 0, 1, 3, marks 1, 2, three sittings. */
    static PenThatJumps rich() {
        PenThatJumps x = new PenThatJumps();
        x.person(0, 3, true, 0, false);
        x.person(1, 7, false, 4, true);
        x.person(6, 9, true, 256, true);
        x.item(2);
        Check.plan(x, 0, "ask plain; ask known 2 for 3; ask known 5; ask asked;");
        Check.plan(x, 2, "ask shaming for 9; ask known 8;");
        Check.body(x, "line 0 = fear + 10 * heard + noise; line 1 = known * 50 - habit + trick * 60;"
                + "line 2 = place * 30 + done;");
        Check.reader(x, 0, "says when others 0 + 8 < real 0;");
        Check.reader(x, 1, "says when plain 1 + file = 60; says when file = 0 - 9;");
        Check.reader(x, 3, "says when 18 < shaming 0 + plain 0;");
        x.sit(0, 0, 1);
        x.sit(1, 2, 9999);
        x.confess(true, true, true, 3);
        x.confess(true, false, false, 2);
        x.confess(false, true, false, 4);
        x.confess(false, false, true, 1);
        x.paper(true, 10, 9);
        x.paper(false, 20, 12);
        x.mark(1, false);
        x.sit(6, 0, 77);
        x.confess(false, false, false, 5);
        x.paper(false, 7, 7);
        x.mark(2, false);
        x.item(5);
        Check.feed(x, TAPE);
        return x;
    }

    /** All that the object answers; it is used up by that. */
    static String of(PenThatJumps x) {
        StringBuilder answers = new StringBuilder();
        counts(answers, x);
        for (int plan = 0; plan < 4; plan++) {
            for (int question = 0; question < 5; question++) {
                for (int what = 0; what < 3; what++) {
                    answers.append(x.question(plan, question, what)).append(' ');
                }
            }
        }
        for (int sitting = 0; sitting < 4; sitting++) {
            jumps(answers, x, sitting);
            for (int i = 0; i < 4; i++) {
                answers.append(x.leans(sitting, i)).append(' ').append(x.hits(sitting, i)).append(' ');
            }
        }
        findings(answers, x);
        for (int person = 0; person < 8; person++) {
            jumps(answers, x, x.sit(person, 0, 5));
        }
        answers.append(x.body()).append(' ');
        jumps(answers, x, x.sit(0, 0, 0));
        marks(answers, x);
        return answers.toString();
    }

    private static void counts(StringBuilder answers, PenThatJumps x) {
        for (int what = 0; what < 8; what++) {
            answers.append(x.count(what)).append(' ');
        }
    }

    private static void jumps(StringBuilder answers, PenThatJumps x, int sitting) {
        answers.append("| ").append(sitting).append(": ");
        boolean asked = sitting != PenThatJumps.NONE;
        for (int question = 0; question < 5 && asked; question++) {
            for (int line = 0; line < 3 && asked; line++) {
                int at = question;
                int of = line;
                String jump = Check.answer(() -> x.jump(sitting, at, of));
                answers.append(jump).append(' ');
                asked = !jump.startsWith("throws");
            }
        }
    }

    private static void findings(StringBuilder answers, PenThatJumps x) {
        for (int plan = 0; plan < 3; plan++) {
            for (int reader = 0; reader < 4; reader++) {
                answers.append(x.rates(plan, reader, 0, 3, 0)).append(' ').append(x.rates(plan, reader, 0, 3, 2))
                        .append(' ').append(x.tricked(1, plan, reader, 4)).append(' ');
            }
            answers.append(x.apart(plan, 3, 3)).append(' ').append(x.same(plan, 3)).append(' ')
                    .append(x.best(plan, 3, 9, 1)).append(' ');
        }
        worths(answers, x);
    }

    private static void worths(StringBuilder answers, PenThatJumps x) {
        for (int what = 0; what < 2; what++) {
            int part = what;
            for (int whom = 0; whom < 3; whom++) {
                int of = whom;
                answers.append(Check.answer(() -> x.worth(of, part))).append(' ');
            }
            answers.append(Check.answer(() -> x.lean(part))).append(' ');
        }
    }

    private static void marks(StringBuilder answers, PenThatJumps x) {
        for (int mark = 3; mark >= 0; mark--) {
            answers.append("| ").append(x.mark(mark, true)).append(' ');
            counts(answers, x);
            worths(answers, x);
        }
    }

    /** A call on a rich object answers as is due, and all else is as it is on one without that call. */
    static void keeps(String name, Check.Asked call, long due) {
        keeps(name, call, Long.toString(due));
    }

    static void keepsThrown(String name, Check.Asked call) {
        keeps(name, call, "throws.NoSuchElementException");
    }

    /** The same, whatever the call answers. */
    static void leaves(String name, Check.Asked call) {
        PenThatJumps x = rich();
        Check.due(name + " throws", Check.answer(() -> call.of(x)).startsWith("throws"), false);
        Check.due(name + " leaves all as it was", of(x), of(rich()));
    }

    private static void keeps(String name, Check.Asked call, String due) {
        PenThatJumps x = rich();
        Check.due(name, Check.answer(() -> call.of(x)), due);
        Check.due(name + " leaves all as it was", of(x), of(rich()));
    }

    /** The same for a call that takes the tape: all else stays. */
    static void takesTape(String name, String text, Check.Asked call, long due) {
        PenThatJumps x = rich();
        x.plan(-1);
        Check.feed(x, text);
        Check.due(name, call.of(x), due);
        Check.due(name + " takes the tape", x.count(6), 0);
        PenThatJumps y = rich();
        y.plan(-1);
        Check.due(name + " leaves all else as it was", of(x), of(y));
    }
}
