import java.util.ArrayList;
import java.util.List;
import java.util.NoSuchElementException;
import java.util.function.IntPredicate;
import java.util.function.IntToLongFunction;

/** What the tests share: answers that are due, ranges and their edges, and texts that are fed. */
final class Check {
    private static final List<String> QUOTED = new ArrayList<>();
    private static int right = 0;
    private static int wrong = 0;
    private static int sinceQuoted = 1;

    private Check() {
    }

    interface Call {
        long answer();
    }

    interface Asked {
        long of(PenThatJumps x);
    }

    /** What follows tests these words of the document. */
    static void says(String words) {
        endOfQuoted();
        QUOTED.add(words);
        sinceQuoted = 0;
    }

    private static void endOfQuoted() {
        if (sinceQuoted == 0) {
            wrong++;
            System.out.println("nothing tests: " + QUOTED.get(QUOTED.size() - 1));
        }
    }

    static List<String> quoted() {
        return QUOTED;
    }

    private static void count(boolean asDue, String told) {
        sinceQuoted++;
        if (asDue) {
            right++;
            return;
        }
        wrong++;
        if (!QUOTED.isEmpty()) {
            System.out.print("[" + QUOTED.get(QUOTED.size() - 1) + "] ");
        }
        System.out.println(told);
    }

    static void due(String call, long got, long want) {
        count(got == want, call + " answered " + got + ", due is " + want);
    }

    static void due(String call, boolean got, boolean want) {
        due(call, got ? 1 : 0, want ? 1 : 0);
    }

    static void due(String call, String got, String want) {
        count(got.equals(want), call + " answered " + got + ", due is " + want);
    }

    static void none(String call, Call made) {
        due(call, answer(made), "throws.NoSuchElementException");
    }

    /** An answer as a text, be it an exception. */
    static String answer(Call made) {
        try {
            return Long.toString(made.answer());
        } catch (NoSuchElementException e) {
            return "throws.NoSuchElementException";
        } catch (RuntimeException e) {
            return "throws." + e;
        }
    }

    static long bit(boolean so) {
        return so ? 1 : 0;
    }

    /** A number is one of a range up to both ends and not beyond, nor if it is one but for its high bits or its sign. */
    static void range(String name, int least, int most, IntPredicate allowed) {
        due(name + " " + least, allowed.test(least), true);
        due(name + " " + most, allowed.test(most), true);
        int[] others = {least - 1, most + 1, least - 2, most + 2, -least, -most, Integer.MIN_VALUE, Integer.MAX_VALUE,
            Integer.MIN_VALUE + most, least + 32, least + 256, most + 256, least - 256, least + 65536, most - 65536};
        for (int other : others) {
            if (other < least || other > most) {
                due(name + " " + other, allowed.test(other), false);
            }
        }
    }

    /** The same for a call that answers NONE beyond the range. */
    static void rangeOf(String name, int least, int most, IntToLongFunction call) {
        range(name, least, most, v -> call.applyAsLong(v) != PenThatJumps.NONE);
    }

    /** The same for a call that throws beyond the range. */
    static void rangeThrown(String name, int least, int most, IntToLongFunction call) {
        for (int v : new int[] {least, most}) {
            due(name + " " + v + " throws", answer(() -> call.applyAsLong(v)).startsWith("throws"), false);
        }
        range(name, least, most,
                v -> !answer(() -> call.applyAsLong(v)).equals("throws.NoSuchElementException"));
    }

    /** A text of up to 24 signs from a place on, eight to a long. */
    static long packed(String text, int from) {
        long bytes = 0;
        for (int i = from; i < from + 8; i++) {
            bytes = bytes << 8 | (i < text.length() ? text.charAt(i) & 255 : 0);
        }
        return bytes;
    }

    static int feed(PenThatJumps x, String text) {
        int size = 0;
        for (int i = 0; i < text.length(); i += 24) {
            size = x.feed(packed(text, i), packed(text, i + 8), packed(text, i + 16));
        }
        return size;
    }

    static int plan(PenThatJumps x, int plan, String text) {
        feed(x, text);
        return x.plan(plan);
    }

    static int body(PenThatJumps x, String text) {
        feed(x, text);
        return x.body();
    }

    static int reader(PenThatJumps x, int reader, String text) {
        feed(x, text);
        return x.reader(reader);
    }

    static void end() {
        endOfQuoted();
        System.out.println(right + " answers are as due, " + wrong + " are not");
        if (wrong != 0 || right == 0) {
            System.exit(1);
        }
    }
}
