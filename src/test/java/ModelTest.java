import java.util.Random;

/** Wild runs of calls, ordinary and wrong ones, on an object and on the model beside it. */
public final class ModelTest {
    private static final int RUNS = 400;
    private static final int CALLS = 512;
    private static final String[] JOINTS = {" + ", "+", " - ", " * ", "*", " < ", "=", " = ", " and ", " or "};
    private static final String[] BODY_FACTS = {"plain", "shaming", "asked", "known", "real", "heard", "fear", "done",
        "trick", "habit", "place", "noise"};
    private static final String[] LINE_FACTS = {"plain", "shaming", "asked", "known", "real", "others"};
    private static final String[] KINDS = {"plain", "shaming", "asked", "known"};
    private static final String[] SCRAPS = {"ask", "plain", "known", "for", "line", "says", "when", "and", "or", "not",
        "(", ")", "<", "=", "+", "-", "*", ";", "0", "1", "2", "3", "9", "10", "12345", "abcdefgh", "abcdefghi", "file",
        "fear", "noise", "others", "real", "X", "#", " ", "\n"};

    private final Random random;
    private final PenThatJumps x = new PenThatJumps();
    private final Model model = new Model();
    private int calls = 0;

    private ModelTest(int seed) {
        random = new Random(seed);
    }

    public static void main(String[] args) {
        for (int seed = 0; seed < RUNS; seed++) {
            new ModelTest(seed).run();
        }
        Check.end();
    }

    private void same(String call, Check.Call got, Check.Call want) {
        // What an object answers after its last call is free.
        if (calls < CALLS) {
            calls++;
            Check.due(call, Check.answer(got), Check.answer(want));
        }
    }

    private int below(int bound) {
        return random.nextInt(bound);
    }

    /** Mostly a number of the range, sometimes one just outside it or far off. */
    private int number(int least, int most) {
        int way = below(40);
        if (way == 0) {
            return least - 1;
        }
        if (way == 1) {
            return most + 1;
        }
        if (way == 2) {
            return random.nextInt();
        }
        if (way == 3) {
            return random.nextBoolean() ? Integer.MIN_VALUE : Integer.MAX_VALUE;
        }
        if (way < 8) {
            return random.nextBoolean() ? least : most;
        }
        return least + below(most - least + 1);
    }

    private static String of(Random random, String[] row) {
        return row[random.nextInt(row.length)];
    }

    // ---- texts

    private String text(int what) {
        String made = below(10) == 0 ? scraps() : what == 0 ? planText() : what == 1 ? bodyText() : readerText();
        return below(6) == 0 ? spoiled(made) : made;
    }

    private String scraps() {
        StringBuilder made = new StringBuilder();
        int size = below(12);
        for (int i = 0; i < size; i++) {
            made.append(of(random, SCRAPS)).append(random.nextBoolean() ? " " : "");
        }
        return made.toString();
    }

    private String spoiled(String text) {
        int at = below(text.length() + 1);
        int end = Math.min(text.length(), at + below(4));
        return text.substring(0, at) + of(random, SCRAPS) + text.substring(end);
    }

    private String planText() {
        StringBuilder made = new StringBuilder();
        int size = below(30) == 0 ? below(15) : 1 + below(below(3) == 0 ? 12 : 6);
        for (int i = 0; i < size; i++) {
            String kind = of(random, KINDS);
            made.append("ask ").append(kind);
            if (kind.equals("known")) {
                made.append(' ').append(below(4) == 0 ? below(9) : below(3));
            }
            if (random.nextBoolean()) {
                made.append(" for ").append(1 + below(9));
            }
            made.append(below(3) == 0 ? ";\n" : " ; ");
        }
        return made.toString();
    }

    private String bodyText() {
        StringBuilder made = new StringBuilder();
        int first = below(3);
        int size = 1 + below(3);
        for (int i = 0; i < size; i++) {
            made.append("line ").append((first + i) % 3).append(" = ").append(e(false, 0)).append(" ;");
        }
        return made.toString();
    }

    private String readerText() {
        StringBuilder made = new StringBuilder();
        int size = below(20) == 0 ? below(9) : 1 + below(3);
        for (int i = 0; i < size; i++) {
            made.append("says when ").append(e(true, 0)).append(';');
        }
        return made.toString();
    }

    private String e(boolean ofReader, int depth) {
        StringBuilder made = new StringBuilder(part(ofReader, depth));
        int size = below(depth == 0 ? 7 : 4);
        for (int i = 0; i < size; i++) {
            made.append(of(random, JOINTS)).append(part(ofReader, depth));
        }
        return made.toString();
    }

    private String part(boolean ofReader, int depth) {
        int way = below(12);
        if (way == 0 && depth < 6) {
            return "not " + part(ofReader, depth + 1);
        }
        if (way < 4 && depth < 6) {
            return "(" + e(ofReader, depth + 1) + ")";
        }
        if (way < 7) {
            return Integer.toString(below(below(3) == 0 ? 10000 : 40));
        }
        if (!ofReader) {
            return of(random, BODY_FACTS);
        }
        return way == 7 ? "file" : way == 8 && below(3) == 0 ? "asks" : of(random, LINE_FACTS) + " " + below(3);
    }

    private void feedText(String text) {
        for (int i = 0; i < text.length(); i += 24) {
            feed(Check.packed(text, i), Check.packed(text, i + 8), Check.packed(text, i + 16));
        }
    }

    private void feed(long a, long b, long c) {
        same("feed", () -> x.feed(a, b, c), () -> model.feed(a, b, c));
    }

    // ---- runs

    private void run() {
        while (calls < CALLS) {
            int way = below(100);
            if (way < 25) {
                tell(below(7));
            } else if (way < 65) {
                look(below(12));
            } else {
                weigh(below(8));
            }
        }
    }

    private void tell(int way) {
        if (way == 0) {
            String text = text(0);
            int plan = number(0, 3);
            feedText(text);
            same("plan of " + text, () -> x.plan(plan), () -> model.plan(plan));
        } else if (way == 1) {
            String text = text(1);
            feedText(text);
            same("body of " + text, () -> x.body(), () -> model.body());
        } else if (way == 2) {
            String text = text(2);
            int reader = number(0, 3);
            feedText(text);
            same("reader of " + text, () -> x.reader(reader), () -> model.reader(reader));
        } else if (way == 3) {
            int item = number(0, below(2) == 0 ? 2 : 8);
            same("item", () -> Check.bit(x.item(item)), () -> Check.bit(model.item(item)));
        } else if (way == 4 && below(10) == 0) {
            feed(random.nextLong(), random.nextLong(), random.nextLong());
        } else {
            int person = number(0, 7);
            int fear = number(0, 9);
            int heard = number(0, 511);
            boolean done = random.nextBoolean();
            boolean trick = random.nextBoolean();
            same("person", () -> Check.bit(x.person(person, fear, done, heard, trick)),
                    () -> Check.bit(model.person(person, fear, done, heard, trick)));
        }
    }

    private void look(int way) {
        int plan = number(0, 3);
        int reader = number(0, 3);
        int file = number(-9, 9);
        int person = number(0, 7);
        int sitting = number(0, Math.max(0, model.count(2) - 1));
        int question = number(0, below(3) == 0 ? 11 : 2);
        int line = number(0, 2);
        int seed = number(0, 9999);
        int seeds = number(1, below(4) == 0 ? 40 : 4);
        int what = number(0, way == 0 ? 2 : 3);
        switch (way) {
            case 0 -> same("question", () -> x.question(plan, question, what), () -> model.question(plan, question, what));
            case 1, 2 -> same("sit", () -> x.sit(person, plan, seed), () -> model.sit(person, plan, seed));
            case 3, 4, 5 -> same("jump", () -> x.jump(sitting, question, line), () -> model.jump(sitting, question, line));
            case 6, 7 -> same("says", () -> x.says(sitting, reader, file), () -> model.says(sitting, reader, file));
            case 8 -> same("leans", () -> x.leans(sitting, reader), () -> model.leans(sitting, reader));
            case 9 -> same("hits", () -> x.hits(sitting, line), () -> model.hits(sitting, line));
            case 10 -> same("rates", () -> x.rates(plan, reader, file, seeds, what),
                    () -> model.rates(plan, reader, file, seeds, what));
            default -> same("tricked", () -> x.tricked(person, plan, reader, seeds),
                    () -> model.tricked(person, plan, reader, seeds));
        }
    }

    private void weigh(int way) {
        int plan = number(0, 3);
        int what = number(0, 1);
        int f = number(0, 9);
        int n = number(0, 9999);
        boolean a = random.nextBoolean();
        boolean b = random.nextBoolean();
        boolean c = random.nextBoolean();
        if (way == 0) {
            int g = number(0, 9);
            same("apart", () -> x.apart(plan, f, g), () -> model.apart(plan, f, g));
            same("same", () -> x.same(plan, f), () -> model.same(plan, f));
        } else if (way == 1) {
            int minutes = number(1, below(3) == 0 ? 99 : 20);
            int which = number(0, 2);
            same("best", () -> x.best(plan, f, minutes, which), () -> model.best(plan, f, minutes, which));
        } else if (way == 2) {
            int m = number(2, 9);
            int k = number(0, 9);
            same("odds", () -> x.odds(f, m, k, what), () -> model.odds(f, m, k, what));
            int p = number(1, below(3) == 0 ? 999999999 : 5000);
            same("items", () -> x.items(m, p), () -> model.items(m, p));
        } else if (way == 3) {
            int d = number(0, below(2) == 0 ? 9 : 9999);
            int reader = number(0, 3);
            int file = number(-9, 9);
            int seeds = number(1, 6);
            same("named", () -> x.named(n, d, plan, reader, file, seeds, what),
                    () -> model.named(n, d, plan, reader, file, seeds, what));
        } else if (way == 4) {
            same("confess", () -> Check.bit(x.confess(a, b, c, n)), () -> Check.bit(model.confess(a, b, c, n)));
            int whom = number(0, 2);
            same("worth", () -> x.worth(whom, what), () -> model.worth(whom, what));
        } else if (way == 5) {
            int right = number(0, Math.max(0, Math.min(n, 9999)));
            same("paper", () -> Check.bit(x.paper(a, n, right)), () -> Check.bit(model.paper(a, n, right)));
            same("lean", () -> x.lean(what), () -> model.lean(what));
        } else if (way == 6) {
            int mark = number(0, 3);
            boolean back = below(3) == 0;
            same("mark", () -> Check.bit(x.mark(mark, back)), () -> Check.bit(model.mark(mark, back)));
        } else {
            int which = number(0, 7);
            same("count", () -> x.count(which), () -> model.count(which));
        }
    }
}
