import java.util.NoSuchElementException;

/** What the tests share: answers that are due, and texts that are fed. */
final class Check {
    private static int right = 0;
    private static int wrong = 0;

    private Check() {
    }

    interface Call {
        long answer();
    }

    static void due(String call, long got, long want) {
        if (got == want) {
            right++;
        } else {
            wrong++;
            System.out.println(call + " answered " + got + ", due is " + want);
        }
    }

    static void due(String call, boolean got, boolean want) {
        due(call, got ? 1 : 0, want ? 1 : 0);
    }

    static void none(String call, Call made) {
        String got;
        try {
            got = "answered " + made.answer();
        } catch (NoSuchElementException e) {
            right++;
            return;
        } catch (RuntimeException e) {
            got = "threw " + e;
        }
        wrong++;
        System.out.println(call + " " + got + ", due is NoSuchElementException");
    }

    /** A text of up to 24 signs from a place on, eight to a long. */
    static long packed(String text, int from) {
        long bytes = 0;
        for (int i = from; i < from + 8; i++) {
            bytes = bytes << 8 | (i < text.length() ? text.charAt(i) & 255 : 0);
        }
        return bytes;
    }

    static int feed(PenThatJumps x, String text) {
        int size = x.count(6);
        for (int i = 0; i < text.length(); i += 24) {
            size = x.feed(packed(text, i), packed(text, i + 8), packed(text, i + 16));
        }
        return size;
    }

    static int plan(PenThatJumps x, int plan, String text) {
        feed(x, text);
        return x.plan(plan);
    }

    static int body(PenThatJumps x, String text) {
        feed(x, text);
        return x.body();
    }

    static int reader(PenThatJumps x, int reader, String text) {
        feed(x, text);
        return x.reader(reader);
    }

    static void end() {
        System.out.println(right + " answers are as due, " + wrong + " are not");
        if (wrong != 0 || right == 0) {
            System.exit(1);
        }
    }
}
