import java.math.BigInteger;
import java.nio.ByteBuffer;
import java.util.ArrayList;
import java.util.HashMap;
import java.util.List;
import java.util.Map;
import java.util.NoSuchElementException;
import java.util.TreeMap;

/** The document once more, as plainly as can be and with the whole library: what the class is held against. */
final class Model {
    record Question(int kind, int item, int minutes) {
    }

    record Person(int fear, boolean done, int heard, boolean trick) {
    }

    record Sitting(List<Question> questions, int item, int[][] jumps) {
    }

    record Confession(boolean done, boolean named, boolean yes, int n) {
    }

    record Paper(boolean sells, int n, int right) {
    }

    record Mark(int sittings, List<Confession> confessions, List<Paper> papers) {
    }

    record Token(String text, int place) {
        boolean isNumber() {
            return text.matches("[0-9]{1,4}");
        }

        boolean isWord() {
            return text.matches("[a-z]{1,8}");
        }
    }

    interface Law {
        int at(Map<String, Integer> facts);
    }

    private static final List<String> KINDS = List.of("plain", "shaming", "asked", "known");
    private static final List<String> BODY_FACTS = List.of("plain", "shaming", "asked", "known", "real", "heard",
            "fear", "done", "trick", "habit", "place", "noise");
    private static final List<String> READER_FACTS = List.of("file", "asks");
    private static final List<String> LINE_FACTS = List.of("plain", "shaming", "asked", "known", "real", "others");

    private final Map<Integer, Person> persons = new TreeMap<>();
    private final Map<Integer, List<Question>> plans = new TreeMap<>();
    private Map<Integer, Law> body = new TreeMap<>();
    private final Map<Integer, List<Law>> readers = new TreeMap<>();
    private final Map<Integer, Mark> marks = new HashMap<>();
    private List<Sitting> sittings = new ArrayList<>();
    private List<Confession> confessions = new ArrayList<>();
    private List<Paper> papers = new ArrayList<>();
    private String tape = "";
    private int trueItem = 0;

    Model() {
        for (int i = 0; i < 4; i++) {
            readers.put(i, List.of());
        }
    }

    // ---- the language

    private static final class Fault extends RuntimeException {
        private static final long serialVersionUID = 1L;
        private final int number;

        Fault(int kind, Token token) {
            number = kind + 16 * token.place();
        }
    }

    private static final class Source {
        private final List<Token> tokens = new ArrayList<>();
        private final boolean ofReader;
        private int at = 0;

        Source(String text, boolean ofReader) {
            this.ofReader = ofReader;
            int i = 0;
            while (i < text.length()) {
                char c = text.charAt(i);
                int end = i + 1;
                if (c >= 'a' && c <= 'z') {
                    while (end < text.length() && text.charAt(end) >= 'a' && text.charAt(end) <= 'z') {
                        end++;
                    }
                } else if (Character.isDigit(c)) {
                    while (end < text.length() && Character.isDigit(text.charAt(end))) {
                        end++;
                    }
                }
                if (c != ' ' && c != '\n') {
                    tokens.add(new Token(text.substring(i, end), i));
                }
                i = end;
            }
            tokens.add(new Token("", text.length()));
        }

        Token here() {
            return tokens.get(at);
        }

        boolean is(String text) {
            return here().text().equals(text);
        }

        boolean ended() {
            return is("");
        }

        boolean passes(String text) {
            if (is(text)) {
                at++;
                return true;
            }
            return false;
        }

        void must(String text) {
            if (!passes(text)) {
                throw new Fault(1, here());
            }
        }

        int number(int least, int most) {
            if (!here().isNumber()) {
                throw new Fault(1, here());
            }
            int n = Integer.parseInt(here().text());
            if (n < least || n > most) {
                throw new Fault(4, here());
            }
            at++;
            return n;
        }

        Law e(int within) {
            Law left = test(within);
            while (true) {
                Law a = left;
                if (passes("and")) {
                    Law b = test(within);
                    left = f -> bit(a.at(f) != 0 & b.at(f) != 0);
                } else if (passes("or")) {
                    Law b = test(within);
                    left = f -> bit(a.at(f) != 0 | b.at(f) != 0);
                } else {
                    return left;
                }
            }
        }

        Law test(int within) {
            Law a = sum(within);
            if (passes("<")) {
                Law b = sum(within);
                return f -> bit(a.at(f) < b.at(f));
            }
            if (passes("=")) {
                Law b = sum(within);
                return f -> bit(a.at(f) == b.at(f));
            }
            return a;
        }

        Law sum(int within) {
            Law left = product(within);
            while (true) {
                Law a = left;
                if (passes("+")) {
                    Law b = product(within);
                    left = f -> a.at(f) + b.at(f);
                } else if (passes("-")) {
                    Law b = product(within);
                    left = f -> a.at(f) - b.at(f);
                } else {
                    return left;
                }
            }
        }

        Law product(int within) {
            Law left = part(within);
            while (passes("*")) {
                Law a = left;
                Law b = part(within);
                left = f -> a.at(f) * b.at(f);
            }
            return left;
        }

        Law part(int within) {
            String text = here().text();
            boolean lineFact = ofReader && LINE_FACTS.contains(text);
            boolean fact = lineFact || (ofReader ? READER_FACTS : BODY_FACTS).contains(text);
            boolean stands = here().isNumber() || fact || is("not") || is("(");
            if (!stands) {
                throw new Fault(1, here());
            }
            if (within >= 5) {
                throw new Fault(5, here());
            }
            if (here().isNumber()) {
                int n = number(0, 9999);
                return f -> n;
            }
            at++;
            if (text.equals("not")) {
                Law a = part(within + 1);
                return f -> bit(a.at(f) == 0);
            }
            if (text.equals("(")) {
                Law a = e(within + 1);
                must(")");
                return a;
            }
            String name = lineFact ? text + number(0, 2) : text;
            return f -> f.get(name);
        }
    }

    private static int bit(boolean so) {
        return so ? 1 : 0;
    }

    private static List<Question> planOf(String text) {
        Source s = new Source(text, false);
        List<Question> found = new ArrayList<>();
        do {
            if (s.is("ask") && found.size() == 12) {
                throw new Fault(5, s.here());
            }
            s.must("ask");
            int kind = KINDS.indexOf(s.here().text());
            if (kind < 0) {
                throw new Fault(1, s.here());
            }
            s.at++;
            int item = kind == 3 ? s.number(0, 8) : -1;
            int minutes = s.passes("for") ? s.number(1, 9) : 1;
            s.must(";");
            found.add(new Question(kind, item, minutes));
        } while (!s.ended());
        return found;
    }

    private static Map<Integer, Law> bodyOf(String text) {
        Source s = new Source(text, false);
        Map<Integer, Law> found = new TreeMap<>();
        while (!s.ended()) {
            s.must("line");
            if (s.here().isNumber() && found.containsKey(Integer.parseInt(s.here().text()))) {
                throw new Fault(3, s.here());
            }
            int line = s.number(0, 2);
            s.must("=");
            found.put(line, s.e(0));
            s.must(";");
        }
        return found;
    }

    private static List<Law> readerOf(String text) {
        Source s = new Source(text, true);
        List<Law> found = new ArrayList<>();
        while (!s.ended()) {
            if (s.is("says") && found.size() == 6) {
                throw new Fault(5, s.here());
            }
            s.must("says");
            s.must("when");
            found.add(s.e(0));
            s.must(";");
        }
        return found;
    }

    private String taken() {
        String text = tape;
        tape = "";
        return text;
    }

    // ---- sittings

    private static boolean in(int value, int least, int most) {
        return least <= value && value <= most;
    }

    private int jumpOf(Person p, List<Question> asked, int place, int line, int noise) {
        Question q = asked.get(place);
        boolean real = q.kind() == 3 && q.item() == trueItem;
        int habit = 0;
        for (Question ahead : asked.subList(0, place)) {
            habit += bit(ahead.kind() == q.kind());
        }
        Map<String, Integer> facts = new HashMap<>();
        for (int i = 0; i < 4; i++) {
            facts.put(KINDS.get(i), bit(q.kind() == i));
        }
        facts.put("real", bit(real));
        facts.put("heard", bit(q.kind() == 3 && (p.heard() & 1 << q.item()) != 0 || real && p.done()));
        facts.put("fear", p.fear());
        facts.put("done", bit(p.done()));
        facts.put("trick", bit(p.trick() && q.kind() == 0));
        facts.put("habit", habit);
        facts.put("place", place);
        facts.put("noise", noise);
        int value = body.containsKey(line) ? body.get(line).at(facts) : 0;
        return Math.max(0, Math.min(99, value));
    }

    private Sitting sitting(Person p, List<Question> asked, int seed) {
        BigInteger g = BigInteger.valueOf(seed);
        int[][] jumps = new int[asked.size()][3];
        for (int q = 0; q < asked.size(); q++) {
            for (int line = 0; line < 3; line++) {
                g = g.multiply(BigInteger.valueOf(1103515245)).add(BigInteger.valueOf(12345))
                        .mod(BigInteger.valueOf(2147483648L));
                jumps[q][line] = jumpOf(p, asked, q, line, g.shiftRight(16).intValue() & 3);
            }
        }
        return new Sitting(asked, trueItem, jumps);
    }

    private boolean said(Sitting s, List<Law> reader, int file) {
        Map<String, Integer> facts = new HashMap<>();
        facts.put("file", file);
        facts.put("asks", s.questions().size());
        for (int line = 0; line < 3; line++) {
            for (String name : LINE_FACTS) {
                facts.put(name + line, 0);
            }
            for (int q = 0; q < s.questions().size(); q++) {
                Question question = s.questions().get(q);
                facts.merge(KINDS.get(question.kind()) + line, s.jumps()[q][line], Integer::sum);
                if (question.kind() == 3) {
                    String name = question.item() == s.item() ? "real" : "others";
                    facts.merge(name + line, s.jumps()[q][line], Math::max);
                }
            }
        }
        return reader.stream().anyMatch(law -> law.at(facts) != 0);
    }

    private int power(List<Question> asked, int fear) {
        int sum = 0;
        for (int q = 0; q < asked.size(); q++) {
            for (int line = 0; line < 3; line++) {
                sum += Math.abs(jumpOf(new Person(fear, true, 0, false), asked, q, line, 0)
                        - jumpOf(new Person(fear, false, 0, false), asked, q, line, 0));
            }
        }
        return sum;
    }

    private static long part(BigInteger above, BigInteger below, int what) {
        BigInteger common = above.gcd(below);
        return (what == 0 ? above : below).divide(common).longValueExact();
    }

    /** The part a / b, less the part c / d. */
    private static long less(long a, long b, long c, long d, int what) {
        if (b == 0 || d == 0 || !in(what, 0, 1)) {
            throw new NoSuchElementException();
        }
        BigInteger above = BigInteger.valueOf(a).multiply(BigInteger.valueOf(d))
                .subtract(BigInteger.valueOf(c).multiply(BigInteger.valueOf(b)));
        return part(above, BigInteger.valueOf(b).multiply(BigInteger.valueOf(d)), what);
    }

    // ---- the face

    boolean person(int person, int fear, boolean done, int heard, boolean trick) {
        if (!in(person, 0, 7) || !in(fear, 0, 9) || !in(heard, 0, 511)) {
            return false;
        }
        persons.put(person, new Person(fear, done, heard, trick));
        return true;
    }

    boolean item(int item) {
        if (!in(item, 0, 8)) {
            return false;
        }
        trueItem = item;
        return true;
    }

    int feed(long a, long b, long c) {
        for (long bytes : new long[] {a, b, c}) {
            for (byte sign : ByteBuffer.allocate(8).putLong(bytes).array()) {
                if ((sign == 10 || in(sign, 32, 126)) && tape.length() < 1000) {
                    tape += (char) sign;
                }
            }
        }
        return tape.length();
    }

    int plan(int plan) {
        String text = taken();
        if (!in(plan, 0, 3)) {
            return -1;
        }
        try {
            plans.put(plan, planOf(text));
            return 0;
        } catch (Fault fault) {
            return fault.number;
        }
    }

    int body() {
        try {
            body = bodyOf(taken());
            return 0;
        } catch (Fault fault) {
            return fault.number;
        }
    }

    int reader(int reader) {
        String text = taken();
        if (!in(reader, 0, 3)) {
            return -1;
        }
        try {
            readers.put(reader, readerOf(text));
            return 0;
        } catch (Fault fault) {
            return fault.number;
        }
    }

    int question(int plan, int question, int what) {
        if (!plans.containsKey(plan) || !in(question, 0, plans.get(plan).size() - 1) || !in(what, 0, 2)) {
            return -1;
        }
        Question q = plans.get(plan).get(question);
        return what == 0 ? q.kind() : what == 1 ? q.item() : q.minutes();
    }

    int sit(int person, int plan, int seed) {
        if (!persons.containsKey(person) || !plans.containsKey(plan) || !in(seed, 0, 9999)
                || sittings.size() == 24) {
            return -1;
        }
        sittings.add(sitting(persons.get(person), plans.get(plan), seed));
        return sittings.size() - 1;
    }

    int jump(int sitting, int question, int line) {
        if (!in(sitting, 0, sittings.size() - 1) || !in(line, 0, 2)
                || !in(question, 0, sittings.get(sitting).questions().size() - 1)) {
            throw new NoSuchElementException();
        }
        return sittings.get(sitting).jumps()[question][line];
    }

    int says(int sitting, int reader, int file) {
        if (!in(sitting, 0, sittings.size() - 1) || !in(reader, 0, 3) || !in(file, -9, 9)) {
            return -1;
        }
        return bit(said(sittings.get(sitting), readers.get(reader), file));
    }

    int leans(int sitting, int reader) {
        if (!in(sitting, 0, sittings.size() - 1) || !in(reader, 0, 3)) {
            return -1;
        }
        int bits = 0;
        for (int i = 0; i < 19; i++) {
            bits += bit(said(sittings.get(sitting), readers.get(reader), i - 9)) << i;
        }
        return bits;
    }

    int hits(int sitting, int line) {
        if (!in(sitting, 0, sittings.size() - 1) || !in(line, 0, 2)) {
            return -1;
        }
        Sitting s = sittings.get(sitting);
        List<Integer> real = new ArrayList<>();
        List<Integer> others = new ArrayList<>();
        for (int q = 0; q < s.questions().size(); q++) {
            if (s.questions().get(q).kind() == 3) {
                (s.questions().get(q).item() == s.item() ? real : others).add(s.jumps()[q][line]);
            }
        }
        if (real.isEmpty() || others.isEmpty()) {
            return 0;
        }
        int greatest = real.stream().mapToInt(i -> i).max().getAsInt();
        return bit(others.stream().allMatch(jump -> jump < greatest));
    }

    int rates(int plan, int reader, int file, int seeds, int what) {
        if (!plans.containsKey(plan) || !in(reader, 0, 3) || !in(file, -9, 9) || !in(seeds, 1, 40)
                || !in(what, 0, 3)) {
            return -1;
        }
        int[] found = new int[4];
        for (Person p : persons.values()) {
            for (int seed = 0; seed < seeds; seed++) {
                int side = p.done() ? 0 : 2;
                found[side] += bit(said(sitting(p, plans.get(plan), seed), readers.get(reader), file));
                found[side + 1]++;
            }
        }
        return found[what];
    }

    int tricked(int person, int plan, int reader, int seeds) {
        if (!persons.containsKey(person) || !plans.containsKey(plan) || !in(reader, 0, 3) || !in(seeds, 1, 40)) {
            return -1;
        }
        Person p = persons.get(person);
        Person tricks = new Person(p.fear(), p.done(), p.heard(), true);
        Person does = new Person(p.fear(), p.done(), p.heard(), false);
        int found = 0;
        for (int seed = 0; seed < seeds; seed++) {
            found += bit(said(sitting(tricks, plans.get(plan), seed), readers.get(reader), 0)
                    != said(sitting(does, plans.get(plan), seed), readers.get(reader), 0));
        }
        return found;
    }

    int apart(int plan, int f, int g) {
        if (!plans.containsKey(plan) || !in(f, 0, 9) || !in(g, 0, 9)) {
            return -1;
        }
        int found = 0;
        for (int q = 0; q < plans.get(plan).size(); q++) {
            for (int line = 0; line < 3; line++) {
                for (int noise = 0; noise < 4; noise++) {
                    found += bit(jumpOf(new Person(f, true, 0, false), plans.get(plan), q, line, noise)
                            != jumpOf(new Person(g, false, 0, false), plans.get(plan), q, line, noise));
                }
            }
        }
        return found;
    }

    int same(int plan, int f) {
        if (!plans.containsKey(plan) || !in(f, 0, 9)) {
            return -1;
        }
        int bits = 0;
        for (int g = 0; g < 10; g++) {
            bits += bit(apart(plan, f, g) == 0) << g;
        }
        return bits;
    }

    int best(int plan, int fear, int minutes, int what) {
        if (!plans.containsKey(plan) || !in(fear, 0, 9) || !in(minutes, 1, 99) || !in(what, 0, 2)) {
            return -1;
        }
        List<Question> all = plans.get(plan);
        int[] best = {-1, 0, 0};
        for (int bits = 0; bits < 1 << all.size(); bits++) {
            List<Question> some = new ArrayList<>();
            for (int q = 0; q < all.size(); q++) {
                if ((bits & 1 << q) != 0) {
                    some.add(all.get(q));
                }
            }
            int span = some.stream().mapToInt(Question::minutes).sum();
            int power = span <= minutes ? power(some, fear) : -1;
            if (power > best[0]) {
                best = new int[] {power, bits, span};
            }
        }
        return best[what];
    }

    long odds(int q, int m, int k, int what) {
        if (!in(q, 1, 9) || !in(m, 2, 9) || !in(k, 0, q) || !in(what, 0, 1)) {
            return -1;
        }
        // The ways to hit so many, one lot after the other.
        long[] ways = {1, 0, 0, 0, 0, 0, 0, 0, 0, 0};
        for (int i = 0; i < q; i++) {
            for (int hits = 9; hits >= 0; hits--) {
                ways[hits] = ways[hits] * (m - 1) + (hits > 0 ? ways[hits - 1] : 0);
            }
        }
        long above = 0;
        for (int hits = k; hits <= 9; hits++) {
            above += ways[hits];
        }
        return part(BigInteger.valueOf(above), BigInteger.valueOf(m).pow(q), what);
    }

    int items(int m, int p) {
        if (!in(m, 2, 9) || !in(p, 1, 999999999)) {
            return -1;
        }
        for (int q = 1; q <= 9; q++) {
            if (BigInteger.valueOf(m).pow(q).compareTo(BigInteger.valueOf(p)) >= 0) {
                return q;
            }
        }
        return -1;
    }

    long named(int n, int d, int plan, int reader, int file, int seeds, int what) {
        if (!in(n, 1, 9999) || !in(d, 0, n) || !in(what, 0, 1) || rates(plan, reader, file, seeds, 0) < 0) {
            return -1;
        }
        BigInteger[] r = new BigInteger[4];
        for (int i = 0; i < 4; i++) {
            r[i] = BigInteger.valueOf(rates(plan, reader, file, seeds, i));
        }
        if (r[1].signum() == 0 || r[3].signum() == 0) {
            return -1;
        }
        BigInteger doers = BigInteger.valueOf(d).multiply(r[0]).multiply(r[3]);
        BigInteger others = BigInteger.valueOf(n - d).multiply(r[2]).multiply(r[1]);
        BigInteger all = doers.add(others);
        return all.signum() == 0 ? what : part(doers, all, what);
    }

    boolean confess(boolean done, boolean named, boolean yes, int n) {
        if (!in(n, 0, 9999)) {
            return false;
        }
        confessions.add(new Confession(done, named, yes, n));
        return true;
    }

    long worth(int whom, int what) {
        if (!in(whom, 0, 2)) {
            throw new NoSuchElementException();
        }
        long[] sums = new long[4];
        for (Confession c : confessions) {
            if (whom == 2 || c.done() == (whom == 0)) {
                int side = c.named() ? 0 : 2;
                sums[side] += c.yes() ? c.n() : 0;
                sums[side + 1] += c.n();
            }
        }
        return less(sums[0], sums[1], sums[2], sums[3], what);
    }

    boolean paper(boolean sells, int n, int right) {
        if (!in(n, 1, 9999) || !in(right, 0, n)) {
            return false;
        }
        papers.add(new Paper(sells, n, right));
        return true;
    }

    long lean(int what) {
        long[] sums = new long[4];
        for (Paper p : papers) {
            int side = p.sells() ? 0 : 2;
            sums[side] += p.right();
            sums[side + 1] += p.n();
        }
        return less(sums[0], sums[1], sums[2], sums[3], what);
    }

    boolean mark(int mark, boolean back) {
        if (!in(mark, 0, 3)) {
            return false;
        }
        if (!back) {
            marks.put(mark, new Mark(sittings.size(), List.copyOf(confessions), List.copyOf(papers)));
            return true;
        }
        Mark held = marks.get(mark);
        if (held == null || sittings.size() < held.sittings()) {
            return false;
        }
        sittings = new ArrayList<>(sittings.subList(0, held.sittings()));
        confessions = new ArrayList<>(held.confessions());
        papers = new ArrayList<>(held.papers());
        return true;
    }

    int count(int what) {
        return switch (what) {
            case 0 -> persons.size();
            case 1 -> plans.size();
            case 2 -> sittings.size();
            case 3 -> (int) persons.values().stream().filter(Person::done).count();
            case 4 -> confessions.stream().mapToInt(Confession::n).sum();
            case 5 -> papers.stream().mapToInt(Paper::n).sum();
            case 6 -> tape.length();
            case 7 -> body.size();
            default -> -1;
        };
    }
}
