import java.util.Arrays;
import java.util.NoSuchElementException;

/**
 * Sittings in a chair under a law of bodies, readers of their lines, and what all that is worth.
 * The words in capitals are those of the document.
 */
public final class PenThatJumps {
    public static final int NONE = -1;

    private static final int PERSONS = 8;
    private static final int MOST_FEAR = 9;
    private static final int ITEMS = 9;
    private static final int PLANS = 4;
    private static final int READERS = 4;
    private static final int QUESTIONS = 12;
    private static final int LINES = 3;
    private static final int NOISES = 4;
    private static final int KINDS = 4;
    private static final int KIND_PLAIN = 0;
    private static final int KIND_KNOWN = 3;
    private static final int MOST_MINUTES = 9;
    private static final int SITTINGS = 24;
    private static final int MOST_SEED = 9999;
    private static final int MOST_SEEDS = 40;
    private static final int MOST_FILE = 9;
    private static final int MARKS = 4;
    private static final int MOST_PEOPLE = 9999;
    private static final int MOST_LOTS = 9;
    private static final int MOST_SURENESS = 999999999;

    private final Person[] persons = new Person[PERSONS];
    private final Plan[] plans = new Plan[PLANS];
    private final Program[] readers = new Program[READERS];
    private final Sitting[] sittings = new Sitting[SITTINGS];
    private final Tally now = new Tally();
    private final Tally[] marks = new Tally[MARKS];
    private final Parser parser = new Parser();
    private final Chair chair = new Chair();
    private final Judge judge = new Judge();
    private final Planner planner = new Planner();
    /** Sittings that are only tried, and never kept, all happen here. */
    private final Sitting trial = new Sitting();
    private final Person doer = new Person();
    private final Person other = new Person();
    private final int[] jumpsOfOne = new int[QUESTIONS * LINES * NOISES];
    private final int[] jumpsOfTwo = new int[QUESTIONS * LINES * NOISES];
    private final int[] rateRow = new int[4];

    public PenThatJumps() {
        for (int i = 0; i < persons.length; i++) {
            persons[i] = new Person();
        }
        for (int i = 0; i < plans.length; i++) {
            plans[i] = new Plan();
        }
        for (int i = 0; i < readers.length; i++) {
            readers[i] = new Program(0);
        }
        for (int i = 0; i < sittings.length; i++) {
            sittings[i] = new Sitting();
        }
        for (int i = 0; i < marks.length; i++) {
            marks[i] = new Tally();
        }
    }

    // ---- what is told

    public boolean person(int person, int fear, boolean done, int heard, boolean trick) {
        if (person < 0 || person >= persons.length) {
            return false;
        }
        if (!within(fear, 0, MOST_FEAR) || !within(heard, 0, (1 << ITEMS) - 1)) {
            return false;
        }
        persons[person].tell(fear, done, heard, trick);
        return true;
    }

    public boolean item(int item) {
        if (!within(item, 0, ITEMS - 1)) {
            return false;
        }
        chair.trueItem = item;
        return true;
    }

    public int feed(long a, long b, long c) {
        parser.tape.put(a);
        parser.tape.put(b);
        parser.tape.put(c);
        return parser.tape.size;
    }

    public int plan(int plan) {
        if (plan < 0 || plan >= plans.length) {
            parser.tape.clear();
            return NONE;
        }
        int fault = parser.readPlan();
        parser.tape.clear();
        if (fault == 0) {
            plans[plan].become(parser.plan);
        }
        return fault;
    }

    public int body() {
        int fault = parser.readBody();
        parser.tape.clear();
        if (fault == 0) {
            chair.law.become(parser.program);
        }
        return fault;
    }

    public int reader(int reader) {
        if (reader < 0 || reader >= readers.length) {
            parser.tape.clear();
            return NONE;
        }
        int fault = parser.readReader();
        parser.tape.clear();
        if (fault == 0) {
            readers[reader].become(parser.program);
        }
        return fault;
    }

    public int question(int plan, int question, int what) {
        Plan asked = toldPlan(plan);
        if (asked == null) {
            return NONE;
        }
        switch (what) {
            case 0:
                return asked.kindAt(question);
            case 1:
                return asked.itemAt(question);
            case 2:
                return asked.minutesAt(question);
            default:
                return NONE;
        }
    }

    // ---- sittings and those who read them

    public int sit(int person, int plan, int seed) {
        Person who = toldPerson(person);
        Plan asked = toldPlan(plan);
        if (who == null || asked == null || !within(seed, 0, MOST_SEED)) {
            return NONE;
        }
        int number = now.sittings;
        if (number < 0 || number >= sittings.length) {
            return NONE;
        }
        chair.fill(who, asked, jumpsOfOne);
        sittings[number].begin(asked, chair.trueItem);
        sittings[number].draw(seed, jumpsOfOne);
        now.sittings = number + 1;
        return number;
    }

    public int jump(int sitting, int question, int line) throws NoSuchElementException {
        Sitting kept = keptSitting(sitting);
        if (kept == null || !within(question, 0, kept.asked.size - 1) || !within(line, 0, LINES - 1)) {
            throw new NoSuchElementException("no such sitting, question or line");
        }
        return kept.jumpAt(question, line);
    }

    public int says(int sitting, int reader, int file) {
        Sitting kept = keptSitting(sitting);
        Program ways = readerOf(reader);
        if (kept == null || ways == null || !within(file, -MOST_FILE, MOST_FILE)) {
            return NONE;
        }
        judge.study(kept);
        return judge.finds(ways, file) ? 1 : 0;
    }

    public int leans(int sitting, int reader) {
        Sitting kept = keptSitting(sitting);
        Program ways = readerOf(reader);
        if (kept == null || ways == null) {
            return NONE;
        }
        judge.study(kept);
        int bits = 0;
        for (int file = -MOST_FILE; file <= MOST_FILE; file++) {
            if (judge.finds(ways, file)) {
                bits |= 1 << (file + MOST_FILE);
            }
        }
        return bits;
    }

    public int hits(int sitting, int line) {
        Sitting kept = keptSitting(sitting);
        if (kept == null || !within(line, 0, LINES - 1)) {
            return NONE;
        }
        return kept.standsOut(line) ? 1 : 0;
    }

    public int rates(int plan, int reader, int file, int seeds, int what) {
        if (what < 0 || what >= rateRow.length || !rated(plan, reader, file, seeds)) {
            return NONE;
        }
        return rateRow[what];
    }

    public int tricked(int person, int plan, int reader, int seeds) {
        Person who = toldPerson(person);
        Plan asked = toldPlan(plan);
        Program ways = readerOf(reader);
        if (who == null || asked == null || ways == null || !within(seeds, 1, MOST_SEEDS)) {
            return NONE;
        }
        other.tell(who.fear, who.done, who.heard, false);
        chair.fill(other, asked, jumpsOfOne);
        other.tell(who.fear, who.done, who.heard, true);
        chair.fill(other, asked, jumpsOfTwo);
        trial.begin(asked, chair.trueItem);
        int moved = 0;
        for (int seed = 0; seed < seeds; seed++) {
            if (tried(ways, 0, seed, jumpsOfOne) != tried(ways, 0, seed, jumpsOfTwo)) {
                moved++;
            }
        }
        return moved;
    }

    // ---- what can be told apart, and the best of a plan

    public int apart(int plan, int f, int g) {
        Plan asked = toldPlan(plan);
        if (asked == null || !within(f, 0, MOST_FEAR) || !within(g, 0, MOST_FEAR)) {
            return NONE;
        }
        seatDoer(asked, f);
        return unlikeDoer(asked, g);
    }

    public int same(int plan, int f) {
        Plan asked = toldPlan(plan);
        if (asked == null || !within(f, 0, MOST_FEAR)) {
            return NONE;
        }
        seatDoer(asked, f);
        int bits = 0;
        for (int g = 0; g <= MOST_FEAR; g++) {
            if (unlikeDoer(asked, g) == 0) {
                bits |= 1 << g;
            }
        }
        return bits;
    }

    public int best(int plan, int fear, int minutes, int what) {
        Plan asked = toldPlan(plan);
        if (asked == null || !within(fear, 0, MOST_FEAR) || !within(minutes, 1, 99) || !within(what, 0, 2)) {
            return NONE;
        }
        doer.tell(fear, true, 0, false);
        other.tell(fear, false, 0, false);
        planner.weigh(chair, asked, doer, other);
        planner.choose(asked, minutes);
        if (what == 0) {
            return planner.power;
        }
        return what == 1 ? planner.bits : planner.minutes;
    }

    // ---- odds, confessions, papers

    public long odds(int q, int m, int k, int what) {
        if (!within(q, 1, MOST_LOTS) || !within(m, 2, 9) || !within(k, 0, q) || !within(what, 0, 1)) {
            return NONE;
        }
        long ways = 0;
        for (int j = k; j <= q; j++) {
            ways += choices(q, j) * power(m - 1, q - j);
        }
        return lowest(ways, power(m, q), what);
    }

    public int items(int m, int p) {
        if (!within(m, 2, 9) || !within(p, 1, MOST_SURENESS)) {
            return NONE;
        }
        long below = 1;
        for (int q = 1; q <= MOST_LOTS; q++) {
            below *= m;
            if (below >= p) {
                return q;
            }
        }
        return NONE;
    }

    public long named(int n, int d, int plan, int reader, int file, int seeds, int what) {
        if (!within(n, 1, MOST_PEOPLE) || !within(d, 0, n) || !within(what, 0, 1)) {
            return NONE;
        }
        if (!rated(plan, reader, file, seeds) || rateRow[1] == 0 || rateRow[3] == 0) {
            return NONE;
        }
        // Both parts are taken times both counts, so that nothing is cut.
        long doers = (long) d * rateRow[0] * rateRow[3];
        long others = (long) (n - d) * rateRow[2] * rateRow[1];
        return lowest(doers, doers + others, what);
    }

    public boolean confess(boolean done, boolean named, boolean yes, int n) {
        if (!within(n, 0, MOST_PEOPLE)) {
            return false;
        }
        now.addConfessions(done, named, yes, n);
        return true;
    }

    public long worth(int whom, int what) throws NoSuchElementException {
        if (!within(whom, 0, 2) || !within(what, 0, 1)) {
            throw new NoSuchElementException("no such people or part");
        }
        long yesNamed = now.confessed(whom, true, true);
        long allNamed = yesNamed + now.confessed(whom, true, false);
        long yesOthers = now.confessed(whom, false, true);
        long allOthers = yesOthers + now.confessed(whom, false, false);
        if (allNamed <= 0 || allOthers <= 0) {
            throw new NoSuchElementException("nobody on one side");
        }
        return lowest(yesNamed * allOthers - yesOthers * allNamed, allNamed * allOthers, what);
    }

    public boolean paper(boolean sells, int n, int right) {
        if (!within(n, 1, MOST_PEOPLE) || !within(right, 0, n)) {
            return false;
        }
        now.addPaper(sells, n, right);
        return true;
    }

    public long lean(int what) throws NoSuchElementException {
        long allSold = now.askedBySellers;
        long allOthers = now.askedByOthers;
        if (!within(what, 0, 1) || allSold <= 0 || allOthers <= 0) {
            throw new NoSuchElementException("no such part, or no paper on one side");
        }
        long above = now.rightBySellers * allOthers - now.rightByOthers * allSold;
        return lowest(above, allSold * allOthers, what);
    }

    // ---- marks and counts

    public boolean mark(int mark, boolean back) {
        if (mark < 0 || mark >= marks.length) {
            return false;
        }
        Tally held = marks[mark];
        if (!back) {
            held.become(now);
            held.laid = true;
            return true;
        }
        if (!held.laid || now.sittings < held.sittings) {
            return false;
        }
        now.become(held);
        return true;
    }

    public int count(int what) {
        switch (what) {
            case 0:
                return countPersons(false);
            case 1:
                return countPlans();
            case 2:
                return now.sittings;
            case 3:
                return countPersons(true);
            case 4:
                return now.allConfessions();
            case 5:
                return now.askedBySellers + now.askedByOthers;
            case 6:
                return parser.tape.size;
            case 7:
                return chair.law.lines;
            default:
                return NONE;
        }
    }

    // ---- what the calls above share

    private static boolean within(int value, int least, int most) {
        return value >= least && value <= most;
    }

    private Person toldPerson(int person) {
        if (person < 0 || person >= persons.length || !persons[person].told) {
            return null;
        }
        return persons[person];
    }

    private Plan toldPlan(int plan) {
        if (plan < 0 || plan >= plans.length || plans[plan].size == 0) {
            return null;
        }
        return plans[plan];
    }

    private Program readerOf(int reader) {
        if (reader < 0 || reader >= readers.length) {
            return null;
        }
        return readers[reader];
    }

    private Sitting keptSitting(int sitting) {
        if (sitting < 0 || sitting >= sittings.length || sitting >= now.sittings) {
            return null;
        }
        return sittings[sitting];
    }

    private int countPersons(boolean onlyDone) {
        int found = 0;
        for (int i = 0; i < persons.length; i++) {
            if (persons[i].told && (persons[i].done || !onlyDone)) {
                found++;
            }
        }
        return found;
    }

    private int countPlans() {
        int found = 0;
        for (int i = 0; i < plans.length; i++) {
            if (plans[i].size > 0) {
                found++;
            }
        }
        return found;
    }

    /** Fills the row of RATES; false if there are none such. */
    private boolean rated(int plan, int reader, int file, int seeds) {
        Plan asked = toldPlan(plan);
        Program ways = readerOf(reader);
        if (asked == null || ways == null) {
            return false;
        }
        if (!within(file, -MOST_FILE, MOST_FILE) || !within(seeds, 1, MOST_SEEDS)) {
            return false;
        }
        Arrays.fill(rateRow, 0);
        trial.begin(asked, chair.trueItem);
        for (int i = 0; i < persons.length; i++) {
            if (persons[i].told) {
                chair.fill(persons[i], asked, jumpsOfOne);
                addRates(ways, file, seeds, persons[i].done ? 0 : 2);
            }
        }
        return true;
    }

    private void addRates(Program ways, int file, int seeds, int side) {
        if (side < 0 || side + 1 >= rateRow.length) {
            return;
        }
        for (int seed = 0; seed < seeds; seed++) {
            if (tried(ways, file, seed, jumpsOfOne)) {
                rateRow[side]++;
            }
        }
        rateRow[side + 1] += seeds;
    }

    private boolean tried(Program ways, int file, int seed, int[] jumpsByNoise) {
        trial.draw(seed, jumpsByNoise);
        judge.study(trial);
        return judge.finds(ways, file);
    }

    private void seatDoer(Plan asked, int fear) {
        doer.tell(fear, true, 0, false);
        chair.fill(doer, asked, jumpsOfOne);
    }

    /** At how many places one who has not done it differs from the doer who was seated last. */
    private int unlikeDoer(Plan asked, int fear) {
        other.tell(fear, false, 0, false);
        chair.fill(other, asked, jumpsOfTwo);
        int cells = asked.size * LINES * NOISES;
        int unlike = 0;
        for (int i = 0; i < cells && i < jumpsOfOne.length && i < jumpsOfTwo.length; i++) {
            if (jumpsOfOne[i] != jumpsOfTwo[i]) {
                unlike++;
            }
        }
        return unlike;
    }

    private static long power(long base, int times) {
        long product = 1;
        for (int i = 0; i < times; i++) {
            product *= base;
        }
        return product;
    }

    private static long choices(int of, int some) {
        long ways = 1;
        for (int i = 1; i <= some; i++) {
            ways = ways * (of - some + i) / i;
        }
        return ways;
    }

    /** A fraction in lowest terms, what 0: above, 1: below; 0 / 1 if nothing is below. */
    private static long lowest(long above, long below, int what) {
        if (below <= 0) {
            return what;
        }
        long common = commonDivisor(above < 0 ? -above : above, below);
        if (common <= 0) {
            return NONE;
        }
        return what == 0 ? above / common : below / common;
    }

    private static long commonDivisor(long a, long b) {
        long high = a;
        long low = b;
        // Euclid needs fewer than a hundred turns for any two longs.
        for (int turn = 0; turn < 200 && low != 0; turn++) {
            long rest = high % low;
            high = low;
            low = rest;
        }
        return high;
    }

    /** The words of the language, with the numbers of the facts that they are in a BODY and in a READER. */
    private enum Word {
        // The first four facts of a BODY are the KINDS, in their order: the parser and the chair count on it.
        // Of a READER each KIND has a fact for each line, and so have real and others; the judge counts on that.
        PLAIN("plain", 0, 0),
        SHAMING("shaming", 1, 3),
        ASKED("asked", 2, 6),
        KNOWN("known", 3, 9),
        REAL("real", Chair.REAL, Judge.REAL),
        OTHERS("others", NONE, Judge.OTHERS),
        FILE("file", NONE, Judge.FILE),
        ASKS("asks", NONE, Judge.ASKS),
        HEARD("heard", Chair.HEARD, NONE),
        FEAR("fear", Chair.FEAR, NONE),
        DONE("done", Chair.DONE, NONE),
        TRICK("trick", Chair.TRICK, NONE),
        HABIT("habit", Chair.HABIT, NONE),
        PLACE("place", Chair.PLACE, NONE),
        NOISE("noise", Chair.NOISE, NONE),
        NOT("not", NONE, NONE),
        AND("and", NONE, NONE),
        OR("or", NONE, NONE),
        ASK("ask", NONE, NONE),
        FOR("for", NONE, NONE),
        LINE("line", NONE, NONE),
        SAYS("says", NONE, NONE),
        WHEN("when", NONE, NONE),
        /** Any other word, and every token that is no word. */
        UNKNOWN("", NONE, NONE);

        private static final Word[] ALL = values();

        private final String text;
        private final int bodyFact;
        private final int readerFact;

        Word(String text, int bodyFact, int readerFact) {
            this.text = text;
            this.bodyFact = bodyFact;
            this.readerFact = readerFact;
        }
    }

    private static final class Person {
        private boolean told;
        private int fear;
        private boolean done;
        private int heard;
        private boolean trick;

        private void tell(int ownFear, boolean hasDone, int ownHeard, boolean tricks) {
            told = true;
            fear = ownFear;
            done = hasDone;
            heard = ownHeard;
            trick = tricks;
        }
    }

    /** Questions in their order; one without any was not told. */
    private static final class Plan {
        private final int[] kinds = new int[QUESTIONS];
        private final int[] known = new int[QUESTIONS];
        private final int[] spans = new int[QUESTIONS];
        private int size;

        private void add(int kind, int item, int minutes) {
            if (size < 0 || size >= kinds.length || size >= known.length || size >= spans.length) {
                return;
            }
            kinds[size] = kind;
            known[size] = item;
            spans[size] = minutes;
            size++;
        }

        private void become(Plan from) {
            size = 0;
            for (int i = 0; i < from.size; i++) {
                add(from.kindAt(i), from.itemAt(i), from.minutesAt(i));
            }
        }

        private int kindAt(int question) {
            return question >= 0 && question < size && question < kinds.length ? kinds[question] : NONE;
        }

        private int itemAt(int question) {
            return question >= 0 && question < size && question < known.length ? known[question] : NONE;
        }

        private int minutesAt(int question) {
            return question >= 0 && question < size && question < spans.length ? spans[question] : NONE;
        }

        /** How many of the same KIND stand ahead of a QUESTION. */
        private int ahead(int question) {
            int kind = kindAt(question);
            int found = 0;
            for (int i = 0; i < question && i < size; i++) {
                if (kindAt(i) == kind) {
                    found++;
                }
            }
            return found;
        }
    }

    /** The E of some lines as steps of a stack machine: numbers, facts (from FACTS on), joints (below 0). */
    private static final class Program {
        private static final int FACTS = 10000;
        private static final int NOT = -1;
        private static final int AND = -2;
        private static final int OR = -3;
        private static final int LESS = -4;
        private static final int EQUAL = -5;
        private static final int PLUS = -6;
        private static final int MINUS = -7;
        private static final int TIMES = -8;
        private static final int MOST_LINES = 6;

        private int[] steps;
        private int size;
        private int lines;
        private final int[] starts = new int[MOST_LINES];
        private final int[] ends = new int[MOST_LINES];
        // Five levels of parts, with at most four values waiting on each, fit with room to spare.
        private final int[] stack = new int[32];

        private Program(int room) {
            steps = new int[room > 0 ? room : 0];
        }

        private void clear() {
            size = 0;
            lines = 0;
            Arrays.fill(starts, 0);
            Arrays.fill(ends, 0);
        }

        private void add(int step) {
            if (size >= 0 && size < steps.length) {
                steps[size] = step;
                size++;
            }
        }

        private void open(int line) {
            if (line >= 0 && line < starts.length) {
                starts[line] = size;
            }
        }

        private void close(int line) {
            if (line >= 0 && line < ends.length) {
                ends[line] = size;
                lines++;
            }
        }

        /** No E is empty: a line that has steps was told. */
        private boolean hasLine(int line) {
            return line >= 0 && line < ends.length && line < starts.length && ends[line] > starts[line];
        }

        private void become(Program from) {
            if (from.size < 0 || from.size > from.steps.length) {
                return;
            }
            // A row just long enough: few programs are near the length of the tape.
            steps = Arrays.copyOf(from.steps, from.size);
            size = from.size;
            lines = from.lines;
            for (int i = 0; i < starts.length && i < ends.length; i++) {
                starts[i] = i < from.starts.length ? from.starts[i] : 0;
                ends[i] = i < from.ends.length ? from.ends[i] : 0;
            }
        }

        /** What the E of a line comes to; 0 for a line that was not told. */
        private int run(int line, int[] facts) {
            if (!hasLine(line) || line < 0 || line >= starts.length || line >= ends.length) {
                return 0;
            }
            int top = 0;
            int from = starts[line] > 0 ? starts[line] : 0;
            for (int i = from; i < ends[line] && i < steps.length; i++) {
                top = take(steps[i], top, facts);
            }
            return top > 0 ? stack[0] : 0;
        }

        /** Takes one step with so many values on the stack; how many there are then. */
        private int take(int step, int top, int[] facts) {
            if (step >= 0) {
                if (top < 0 || top >= stack.length) {
                    return top;
                }
                int fact = step - FACTS;
                stack[top] = fact < 0 ? step : fact < facts.length ? facts[fact] : 0;
                return top + 1;
            }
            if (step == NOT) {
                if (top >= 1 && top <= stack.length) {
                    stack[top - 1] = stack[top - 1] == 0 ? 1 : 0;
                }
                return top;
            }
            if (top < 2 || top > stack.length) {
                return top;
            }
            stack[top - 2] = joined(step, stack[top - 2], stack[top - 1]);
            return top - 1;
        }

        private static int joined(int step, int left, int right) {
            switch (step) {
                case AND:
                    return left != 0 && right != 0 ? 1 : 0;
                case OR:
                    return left != 0 || right != 0 ? 1 : 0;
                case LESS:
                    return left < right ? 1 : 0;
                case EQUAL:
                    return left == right ? 1 : 0;
                case PLUS:
                    return left + right;
                case MINUS:
                    return left - right;
                case TIMES:
                    return left * right;
                default:
                    return 0;
            }
        }
    }

    /** The signs that were fed, and the tokens that they are cut into. */
    private static final class Tape {
        private static final int ROOM = 1000;
        private static final int LONGEST_WORD = 8;
        private static final int LONGEST_NUMBER = 4;
        // The code of a number is the number; of a word, WORDS and its row in Word; of a sign, SIGNS and the sign.
        private static final int WORDS = 10000;
        private static final int SIGNS = 11000;
        private static final int END = 12000;
        private static final int WRONG = 13000;

        private final char[] signs = new char[ROOM];
        private int size;
        // The end is a token too.
        private final int[] codes = new int[ROOM + 1];
        private final int[] places = new int[ROOM + 1];
        private int tokens;

        private void clear() {
            size = 0;
        }

        private void put(long bytes) {
            for (int shift = 56; shift >= 0; shift -= 8) {
                int sign = (int) (bytes >>> shift) & 255;
                boolean fits = sign == 10 || sign >= 32 && sign <= 126;
                if (fits && size >= 0 && size < signs.length) {
                    signs[size] = (char) sign;
                    size++;
                }
            }
        }

        /** The sign at a place; 0, which is never on the tape, behind its end. */
        private char signAt(int at) {
            return at >= 0 && at < size && at < signs.length ? signs[at] : 0;
        }

        private void cut() {
            tokens = 0;
            int at = pastBlanks(0);
            for (int i = 0; i < ROOM && at < size; i++) {
                at = pastBlanks(cutToken(at));
            }
            addToken(END, size);
        }

        private void addToken(int code, int place) {
            if (tokens >= 0 && tokens < codes.length && tokens < places.length) {
                codes[tokens] = code;
                places[tokens] = place;
                tokens++;
            }
        }

        private int pastBlanks(int from) {
            int at = from;
            while (at < size && (signAt(at) == 10 || signAt(at) == 32)) {
                at++;
            }
            return at;
        }

        /** Cuts the token at a place; the place behind it. */
        private int cutToken(int at) {
            char first = signAt(at);
            if (isLetter(first)) {
                return cutWord(at);
            }
            if (isDigit(first)) {
                return cutNumber(at);
            }
            addToken(isSign(first) ? SIGNS + first : WRONG, at);
            return at + 1;
        }

        private int cutWord(int at) {
            int end = at;
            while (end < size && isLetter(signAt(end))) {
                end++;
            }
            addToken(end - at > LONGEST_WORD ? WRONG : WORDS + rowOfWord(at, end), at);
            return end;
        }

        private int cutNumber(int at) {
            int end = at;
            int number = 0;
            while (end < size && isDigit(signAt(end))) {
                // Digits that are too many may wrap here: the token is wrong then anyway.
                number = number * 10 + (signAt(end) - '0');
                end++;
            }
            addToken(end - at > LONGEST_NUMBER ? WRONG : number, at);
            return end;
        }

        /** The row of the word between two places; the last one stands for words that mean nothing. */
        private int rowOfWord(int at, int end) {
            int last = Word.ALL.length - 1;
            for (int row = 0; row < last; row++) {
                if (spells(at, end, Word.ALL[row].text)) {
                    return row;
                }
            }
            return last;
        }

        private boolean spells(int at, int end, String text) {
            if (text.length() != end - at) {
                return false;
            }
            for (int i = 0; i < text.length(); i++) {
                if (text.charAt(i) != signAt(at + i)) {
                    return false;
                }
            }
            return true;
        }

        private static boolean isLetter(char sign) {
            return sign >= 'a' && sign <= 'z';
        }

        private static boolean isDigit(char sign) {
            return sign >= '0' && sign <= '9';
        }

        private static boolean isSign(char sign) {
            return sign == '(' || sign == ')' || sign == '<' || sign == '=' || sign == '+' || sign == '-'
                    || sign == '*' || sign == ';';
        }
    }

    /** Reads the tape into a plan or a program of its own, from where it is copied if there was no fault. */
    private static final class Parser {
        private static final int CANNOT_STAND = 1;
        private static final int TOLD_BEFORE = 3;
        private static final int NOT_AS_TOLD = 4;
        private static final int TOO_MANY = 5;
        private static final int DEEPEST = 5;
        // The levels of E: and, or; then < and =; then + and -; then *; then parts.
        private static final int TESTS = 1;
        private static final int SUMS = 2;
        private static final int PARTS = 4;

        private final Tape tape = new Tape();
        private final Plan plan = new Plan();
        private final Program program = new Program(Tape.ROOM);
        private boolean ofReader;
        private int fault;
        private int at;
        private int code;
        private int place;
        private Word word = Word.UNKNOWN;

        private int readPlan() {
            tape.cut();
            begin(false);
            takeQuestion();
            // The question that is one too many ends this with a fault.
            for (int i = 0; i < QUESTIONS && goesOn(); i++) {
                takeQuestion();
            }
            return fault;
        }

        private int readBody() {
            tape.cut();
            begin(false);
            for (int i = 0; i < Tape.ROOM && goesOn(); i++) {
                takeLaw(takeBodyHead());
            }
            return fault;
        }

        private int readReader() {
            tape.cut();
            begin(true);
            // The line that is one too many ends this with a fault.
            for (int i = 0; i <= Program.MOST_LINES && goesOn(); i++) {
                takeLaw(takeReaderHead());
            }
            return fault;
        }

        private void begin(boolean forReader) {
            fault = 0;
            ofReader = forReader;
            plan.size = 0;
            program.clear();
            at = NONE;
            next();
        }

        private boolean goesOn() {
            return fault == 0 && code != Tape.END;
        }

        private void next() {
            at++;
            if (at >= 0 && at < tape.tokens && at < tape.codes.length && at < tape.places.length) {
                code = tape.codes[at];
                place = tape.places[at];
            }
            int row = code - Tape.WORDS;
            word = row >= 0 && row < Word.ALL.length ? Word.ALL[row] : Word.UNKNOWN;
        }

        /** The first fault stands: nothing is taken behind it. */
        private void wrong(int kind) {
            if (fault == 0) {
                fault = kind + 16 * place;
            }
        }

        private void takeQuestion() {
            if (plan.size >= QUESTIONS && word == Word.ASK) {
                wrong(TOO_MANY);
            }
            takeWord(Word.ASK);
            int kind = takeKind();
            int item = kind == KIND_KNOWN ? takeNumber(0, ITEMS - 1) : NONE;
            int minutes = 1;
            if (fault == 0 && word == Word.FOR) {
                next();
                minutes = takeNumber(1, MOST_MINUTES);
            }
            takeSign(';');
            if (fault == 0) {
                plan.add(kind, item, minutes);
            }
        }

        private int takeKind() {
            int kind = word.bodyFact;
            if (kind < 0 || kind >= KINDS) {
                wrong(CANNOT_STAND);
            }
            if (fault != 0) {
                return NONE;
            }
            next();
            return kind;
        }

        /** Takes the beginning of a line of a BODY; its number. */
        private int takeBodyHead() {
            takeWord(Word.LINE);
            if (isNumber() && program.hasLine(code)) {
                wrong(TOLD_BEFORE);
            }
            int line = takeNumber(0, LINES - 1);
            takeSign('=');
            return line;
        }

        private int takeReaderHead() {
            if (program.lines >= Program.MOST_LINES && word == Word.SAYS) {
                wrong(TOO_MANY);
            }
            takeWord(Word.SAYS);
            takeWord(Word.WHEN);
            return program.lines;
        }

        private void takeLaw(int line) {
            program.open(line);
            chain(0, 0);
            program.close(line);
            takeSign(';');
        }

        private boolean isNumber() {
            return code >= 0 && code < Tape.WORDS;
        }

        private boolean isSign(char sign) {
            return code == Tape.SIGNS + sign;
        }

        private void takeWord(Word due) {
            if (word != due) {
                wrong(CANNOT_STAND);
            }
            if (fault == 0) {
                next();
            }
        }

        private void takeSign(char due) {
            if (!isSign(due)) {
                wrong(CANNOT_STAND);
            }
            if (fault == 0) {
                next();
            }
        }

        private int takeNumber(int least, int most) {
            int number = code;
            if (!isNumber()) {
                wrong(CANNOT_STAND);
            } else if (!within(number, least, most)) {
                wrong(NOT_AS_TOLD);
            }
            if (fault != 0) {
                return least;
            }
            next();
            return number;
        }

        /** What one level of E joins, from the left; of tests only two sums can be joined. */
        private void chain(int level, int depth) {
            if (level >= PARTS) {
                takePart(depth);
                return;
            }
            chain(level + 1, depth);
            int most = level == TESTS ? 1 : Tape.ROOM;
            for (int i = 0; i < most && fault == 0; i++) {
                int joint = jointAt(level);
                if (joint == 0) {
                    return;
                }
                next();
                chain(level + 1, depth);
                program.add(joint);
            }
        }

        /** The joint of a level that the token is, or 0. */
        private int jointAt(int level) {
            if (level == 0) {
                return word == Word.AND ? Program.AND : word == Word.OR ? Program.OR : 0;
            }
            if (level == TESTS) {
                return isSign('<') ? Program.LESS : isSign('=') ? Program.EQUAL : 0;
            }
            if (level == SUMS) {
                return isSign('+') ? Program.PLUS : isSign('-') ? Program.MINUS : 0;
            }
            return isSign('*') ? Program.TIMES : 0;
        }

        private void takePart(int depth) {
            int fact = ofReader ? word.readerFact : word.bodyFact;
            if (!isNumber() && !isSign('(') && word != Word.NOT && fact == NONE) {
                wrong(CANNOT_STAND);
            } else if (depth >= DEEPEST) {
                wrong(TOO_MANY);
            }
            if (fault != 0) {
                return;
            }
            int number = code;
            boolean isNumber = isNumber();
            boolean opens = isSign('(');
            next();
            if (isNumber) {
                program.add(number);
            } else if (opens) {
                chain(0, depth + 1);
                takeSign(')');
            } else if (fact == NONE) {
                takePart(depth + 1);
                program.add(Program.NOT);
            } else {
                takeLineOfFact(fact);
            }
        }

        /** Most facts of a READER are of a line, whose number comes behind them. */
        private void takeLineOfFact(int fact) {
            int line = ofReader && fact < Judge.FILE ? takeNumber(0, LINES - 1) : 0;
            program.add(Program.FACTS + fact + line);
        }
    }

    /** Where a body answers questions under the law. */
    private static final class Chair {
        private static final int REAL = 4;
        private static final int HEARD = 5;
        private static final int FEAR = 6;
        private static final int DONE = 7;
        private static final int TRICK = 8;
        private static final int HABIT = 9;
        private static final int PLACE = 10;
        private static final int NOISE = 11;
        private static final int MOST_JUMP = 99;

        /** The BODY. */
        private final Program law = new Program(0);
        private final int[] facts = new int[NOISE + 1];
        private final int[] lines = new int[LINES];
        private int trueItem;

        /** The jumps of a person at each question and line of a plan for each noise: draws only choose of them. */
        private void fill(Person who, Plan asked, int[] jumpsByNoise) {
            for (int question = 0; question < asked.size; question++) {
                pose(who, asked, question, asked.ahead(question), question);
                for (int cell = 0; cell < LINES * NOISES; cell++) {
                    int at = question * LINES * NOISES + cell;
                    if (at >= 0 && at < jumpsByNoise.length) {
                        jumpsByNoise[at] = jumpOf(cell / NOISES, cell % NOISES);
                    }
                }
            }
        }

        /** How far the lines of two people lie apart at one question, without noise. */
        private int spread(Person one, Person two, Plan asked, int question, int habit, int place) {
            pose(one, asked, question, habit, place);
            for (int line = 0; line < lines.length; line++) {
                lines[line] = jumpOf(line, 0);
            }
            pose(two, asked, question, habit, place);
            int sum = 0;
            for (int line = 0; line < lines.length; line++) {
                sum += Math.abs(lines[line] - jumpOf(line, 0));
            }
            return sum;
        }

        private void pose(Person who, Plan asked, int question, int habit, int place) {
            int kind = asked.kindAt(question);
            int item = asked.itemAt(question);
            boolean known = kind == KIND_KNOWN;
            boolean real = known && item == trueItem;
            boolean heard = known && (who.heard >> item & 1) == 1 || real && who.done;
            for (int i = 0; i < KINDS && i < facts.length; i++) {
                facts[i] = kind == i ? 1 : 0;
            }
            facts[REAL] = real ? 1 : 0;
            facts[HEARD] = heard ? 1 : 0;
            facts[FEAR] = who.fear;
            facts[DONE] = who.done ? 1 : 0;
            facts[TRICK] = who.trick && kind == KIND_PLAIN ? 1 : 0;
            facts[HABIT] = habit;
            facts[PLACE] = place;
        }

        private int jumpOf(int line, int noise) {
            facts[NOISE] = noise;
            int jump = law.run(line, facts);
            return jump < 0 ? 0 : jump > MOST_JUMP ? MOST_JUMP : jump;
        }
    }

    /** Questions that were asked, the true item then, and the jumps of the lines at them. */
    private static final class Sitting {
        private final Plan asked = new Plan();
        private final int[] jumps = new int[QUESTIONS * LINES];
        private int trueItem;

        private void begin(Plan plan, int item) {
            asked.become(plan);
            trueItem = item;
        }

        private void draw(int seed, int[] jumpsByNoise) {
            long g = seed;
            for (int i = 0; i < asked.size * LINES && i < jumps.length; i++) {
                g = (g * 1103515245L + 12345L) % 2147483648L;
                int at = i * NOISES + (int) (g / 65536 % NOISES);
                jumps[i] = at >= 0 && at < jumpsByNoise.length ? jumpsByNoise[at] : 0;
            }
        }

        private int jumpAt(int question, int line) {
            int at = question * LINES + line;
            return at >= 0 && at < jumps.length ? jumps[at] : 0;
        }

        private boolean standsOut(int line) {
            int real = NONE;
            int others = NONE;
            for (int i = 0; i < asked.size; i++) {
                int item = asked.itemAt(i);
                if (item == trueItem) {
                    real = Math.max(real, jumpAt(i, line));
                } else if (item != NONE) {
                    others = Math.max(others, jumpAt(i, line));
                }
            }
            // A real one that was not asked is below all others.
            return others != NONE && others < real;
        }
    }

    /** The facts of a sitting as readers see them. */
    private static final class Judge {
        private static final int REAL = 12;
        private static final int OTHERS = 15;
        private static final int FILE = 18;
        private static final int ASKS = 19;

        private final int[] facts = new int[ASKS + 1];

        private void study(Sitting sitting) {
            Arrays.fill(facts, 0);
            facts[ASKS] = sitting.asked.size;
            for (int question = 0; question < sitting.asked.size; question++) {
                for (int line = 0; line < LINES; line++) {
                    note(sitting, question, line);
                }
            }
        }

        private void note(Sitting sitting, int question, int line) {
            int jump = sitting.jumpAt(question, line);
            int sum = sitting.asked.kindAt(question) * LINES + line;
            if (sum >= 0 && sum < facts.length) {
                facts[sum] += jump;
            }
            int item = sitting.asked.itemAt(question);
            int greatest = (item == sitting.trueItem ? REAL : OTHERS) + line;
            if (item != NONE && greatest >= 0 && greatest < facts.length) {
                facts[greatest] = Math.max(facts[greatest], jump);
            }
        }

        /** Whether a reader says it of the sitting that was studied last. */
        private boolean finds(Program ways, int file) {
            facts[FILE] = file;
            for (int line = 0; line < ways.lines; line++) {
                if (ways.run(line, facts) != 0) {
                    return true;
                }
            }
            return false;
        }
    }

    /** Finds the best questions of a plan. */
    private static final class Planner {
        // What a question moves depends on its place and on its habit among those chosen, and on no more.
        private final int[] spreads = new int[QUESTIONS * QUESTIONS * QUESTIONS];
        private final int[] chosen = new int[KINDS];
        private int power;
        private int bits;
        private int minutes;

        private static int cell(int question, int place, int habit) {
            return (question * QUESTIONS + place) * QUESTIONS + habit;
        }

        private void weigh(Chair chair, Plan plan, Person one, Person two) {
            for (int question = 0; question < plan.size; question++) {
                int mostHabit = plan.ahead(question);
                for (int place = 0; place <= question; place++) {
                    for (int habit = 0; habit <= mostHabit && habit <= place; habit++) {
                        int at = cell(question, place, habit);
                        if (at >= 0 && at < spreads.length) {
                            spreads[at] = chair.spread(one, two, plan, question, habit, place);
                        }
                    }
                }
            }
        }

        private void choose(Plan plan, int mostMinutes) {
            power = 0;
            bits = 0;
            minutes = 0;
            int sets = 1 << plan.size;
            // Sets come in the order of their bits: only a greater power takes the place of an earlier one.
            for (int set = 1; set < sets; set++) {
                int span = spanOf(plan, set);
                if (span <= mostMinutes) {
                    int reach = powerOf(plan, set);
                    if (reach > power) {
                        power = reach;
                        bits = set;
                        minutes = span;
                    }
                }
            }
        }

        private static int spanOf(Plan plan, int set) {
            int span = 0;
            for (int question = 0; question < plan.size; question++) {
                if ((set >> question & 1) == 1) {
                    span += plan.minutesAt(question);
                }
            }
            return span;
        }

        private int powerOf(Plan plan, int set) {
            Arrays.fill(chosen, 0);
            int place = 0;
            int sum = 0;
            for (int question = 0; question < plan.size; question++) {
                int kind = plan.kindAt(question);
                if ((set >> question & 1) == 1 && kind >= 0 && kind < chosen.length) {
                    int at = cell(question, place, chosen[kind]);
                    sum += at >= 0 && at < spreads.length ? spreads[at] : 0;
                    chosen[kind]++;
                    place++;
                }
            }
            return sum;
        }
    }

    /** What marks hold: how many sittings there are, confessions, papers. */
    private static final class Tally {
        private boolean laid;
        private int sittings;
        private final int[] confessions = new int[8];
        private int askedBySellers;
        private int rightBySellers;
        private int askedByOthers;
        private int rightByOthers;

        private void become(Tally from) {
            sittings = from.sittings;
            for (int i = 0; i < confessions.length && i < from.confessions.length; i++) {
                confessions[i] = from.confessions[i];
            }
            askedBySellers = from.askedBySellers;
            rightBySellers = from.rightBySellers;
            askedByOthers = from.askedByOthers;
            rightByOthers = from.rightByOthers;
        }

        private static int cell(boolean done, boolean named, boolean yes) {
            return (done ? 4 : 0) + (named ? 2 : 0) + (yes ? 1 : 0);
        }

        private void addConfessions(boolean done, boolean named, boolean yes, int n) {
            int at = cell(done, named, yes);
            if (at >= 0 && at < confessions.length) {
                confessions[at] += n;
            }
        }

        private int confessionsAt(boolean done, boolean named, boolean yes) {
            int at = cell(done, named, yes);
            return at >= 0 && at < confessions.length ? confessions[at] : 0;
        }

        /** Of whom 0: those who have done it, 1: others, 2: all. */
        private int confessed(int whom, boolean named, boolean yes) {
            int doers = whom == 1 ? 0 : confessionsAt(true, named, yes);
            int others = whom == 0 ? 0 : confessionsAt(false, named, yes);
            return doers + others;
        }

        private int allConfessions() {
            int sum = 0;
            for (int i = 0; i < confessions.length; i++) {
                sum += confessions[i];
            }
            return sum;
        }

        private void addPaper(boolean sells, int n, int right) {
            if (sells) {
                askedBySellers += n;
                rightBySellers += right;
            } else {
                askedByOthers += n;
                rightByOthers += right;
            }
        }
    }
}
