import java.math.BigInteger;
import java.util.ArrayList;
import java.util.Comparator;
import java.util.HashMap;
import java.util.List;
import java.util.Map;
import java.util.TreeSet;

/**
 * The document once more, word by word and without any short cut, for ModelTest: every question replays the
 * book, every multiple is looked at, every fraction is exact. It shares no code and no way of reading texts
 * with the class it is held against.
 */
final class SlowStones {
    record Entry(int day, int stone, int fact, int value, int stuff, int town) {
    }

    record Test(boolean not, String key, char sign, int number) {
    }

    record Line(List<Test> tests, String deed, int a, int b) {
    }

    record Token(String text, int place) {
    }

    record Stone(int number, int[] facts, int low, int high) {
    }

    /** a / b, b above 0. */
    record Fraction(BigInteger a, BigInteger b) implements Comparable<Fraction> {
        static Fraction of(long a, long b) {
            return new Fraction(BigInteger.valueOf(a), BigInteger.valueOf(b));
        }

        Fraction plus(Fraction o) {
            return new Fraction(a.multiply(o.b).add(o.a.multiply(b)), b.multiply(o.b));
        }

        @Override
        public int compareTo(Fraction o) {
            return a.multiply(o.b).compareTo(o.a.multiply(b));
        }
    }

    private static final int[] LEAST = {1, 0, 0, 0, 0, -3000, -3000, 0, 0, 0, 0};
    private static final int[] MOST = {30000, 4, 3, 2000, 5, 1900, 1900, 60, 9, 1, 8};

    private List<Entry> entries = new ArrayList<>();
    private int day = 0;
    private int view = -1;
    private List<Integer> tape = new ArrayList<>();
    private List<Line> wear = List.of();
    private List<Line> proof = List.of();
    private int fault = 0;
    private int place = -1;
    private int[] choice = {63, 31, -3000, 1900, 0};
    private Map<Integer, SlowStones> images = new HashMap<>();

    private void take(SlowStones o) {
        entries = new ArrayList<>(o.entries);
        day = o.day;
        view = o.view;
        tape = new ArrayList<>(o.tape);
        wear = o.wear;
        proof = o.proof;
        fault = o.fault;
        place = o.place;
        choice = o.choice.clone();
    }

    // 1. The book.

    private List<int[]> book(int until) {
        List<int[]> stones = new ArrayList<>();
        for (Entry e : entries) {
            if (e.day > until) {
                continue;
            }
            if (e.fact == -1) {
                stones.add(new int[] {e.value, e.stuff, 0, 0, e.town, -3000, 1900, 0, 0, 1, 0});
            } else {
                stones.get(e.stone)[e.fact] = e.value;
            }
        }
        return stones;
    }

    private List<int[]> viewed() {
        return book(view == -1 ? 9999 : view);
    }

    int stone(int weight, int stuff, int town) {
        int n = book(9999).size();
        if (n == 32 || entries.size() == 400 || weight < 1 || weight > 30000 || stuff < 0 || stuff > 4
                || town < 0 || town > 5) {
            return -1;
        }
        entries.add(new Entry(day, n, -1, weight, stuff, town));
        return n;
    }

    boolean tell(int stone, int fact, int value) {
        List<int[]> stones = book(9999);
        if (entries.size() == 400 || stone < 0 || stone >= stones.size() || fact < 0 || fact > 10
                || value < LEAST[fact] || value > MOST[fact]) {
            return false;
        }
        int[] facts = stones.get(stone);
        facts[fact] = value;
        if (facts[3] >= facts[0] || facts[5] > facts[6]) {
            return false;
        }
        entries.add(new Entry(day, stone, fact, value, 0, 0));
        return true;
    }

    boolean day(int d) {
        if (d < day || d > 9999) {
            return false;
        }
        day = d;
        return true;
    }

    boolean view(int d) {
        if (d < -1 || d > day) {
            return false;
        }
        view = d;
        return true;
    }

    int fact(int stone, int fact) {
        List<int[]> stones = viewed();
        return stone < 0 || stone >= stones.size() || fact < 0 || fact > 10 ? -100000 : stones.get(stone)[fact];
    }

    int entry(int k, int what) {
        if (k < 0 || k >= entries.size()) {
            return -100000;
        }
        Entry e = entries.get(k);
        return what == 0 ? e.day : what == 1 ? e.stone : what == 2 ? e.fact : what == 3 ? e.value : -100000;
    }

    // 2. Texts.

    int feed(int... numbers) {
        if (tape.size() + 20 > 500) {
            return -1;
        }
        for (int n : numbers) {
            tape.add(n >>> 24);
            tape.add(n >>> 16 & 255);
            tape.add(n >>> 8 & 255);
            tape.add(n & 255);
        }
        return tape.size();
    }

    int end(int n) {
        if (n < 0 || n > tape.size()) {
            return -1;
        }
        tape = new ArrayList<>(tape.subList(0, n));
        return n;
    }

    private static List<Token> tokens(List<Integer> bytes) {
        StringBuilder all = new StringBuilder();
        for (int b : bytes) {
            all.append((char) b);
        }
        List<Token> found = new ArrayList<>();
        java.util.regex.Matcher m = java.util.regex.Pattern.compile("[a-z]+|[0-9]+|[\\x00-\\xff&&[^a-z0-9]]").matcher(all);
        while (m.find()) {
            if (!m.group().equals(" ") && !m.group().equals("\n")) {
                found.add(new Token(m.group(), m.start()));
            }
        }
        found.add(new Token("", bytes.size()));
        return found;
    }

    /** A machine of states: the state behind a token, or null if no text goes on so. */
    private static String next(String state, String t, boolean asProof) {
        List<String> keys = asProof ? List.of("many", "near", "mean", "chance", "tried", "place", "towns", "marks")
                : List.of("stuff", "chips", "lead", "town", "mark", "owner", "age");
        boolean number = t.matches("[0-9]{1,4}");
        boolean amount = !asProof && (t.equals("more") || t.equals("less"));
        boolean bare = asProof ? List.of("sure", "likely", "open", "against").contains(t) : t.equals("stop");
        String deed = amount ? "amount" : bare ? "semicolon" : null;
        switch (state) {
            case "line":
                return t.equals("if") ? "test" : deed;
            case "test":
                return t.equals("not") ? "key" : keys.contains(t) ? "sign" : null;
            case "key":
                return keys.contains(t) ? "sign" : null;
            case "sign":
                return t.equals("<") || t.equals(">") || t.equals("=") ? "number" : null;
            case "number":
                return number ? "tested" : null;
            case "tested":
                return t.equals("and") ? "test" : t.equals(":") ? "deed" : null;
            case "deed":
                return deed;
            case "amount":
                return number ? "amounted" : null;
            case "amounted":
                return t.equals("to") ? "most" : t.equals(";") ? "line" : null;
            case "most":
                return number ? "semicolon" : null;
            default:
                return t.equals(";") ? "line" : null;
        }
    }

    int text(boolean asProof) {
        List<Token> tokens = tokens(tape);
        tape = new ArrayList<>();
        fault = 0;
        place = -1;
        String state = "line";
        for (Token t : tokens) {
            if (t.text.isEmpty() && state.equals("line")) {
                break;
            }
            state = next(state, t.text, asProof);
            if (state == null) {
                fault = 1;
                place = t.place;
                return -1;
            }
        }
        List<Line> lines = lines(tokens);
        if (fault != 0) {
            return -1;
        }
        if (asProof) {
            proof = lines;
        } else {
            wear = lines;
        }
        return lines.size();
    }

    /** The lines of tokens that the grammar has taken; the first of the other faults. */
    private List<Line> lines(List<Token> tokens) {
        List<Line> lines = new ArrayList<>();
        int at = 0;
        while (!tokens.get(at).text.isEmpty()) {
            if (lines.size() == 16) {
                blame(3, tokens.get(at).place);
            }
            List<Test> tests = new ArrayList<>();
            if (tokens.get(at).text.equals("if")) {
                while (!tokens.get(at).text.equals(":")) {
                    at++;
                    if (tests.size() == 4) {
                        blame(3, tokens.get(at).place);
                    }
                    boolean not = tokens.get(at).text.equals("not");
                    at += not ? 1 : 0;
                    tests.add(new Test(not, tokens.get(at).text, tokens.get(at + 1).text.charAt(0),
                            Integer.parseInt(tokens.get(at + 2).text)));
                    at += 3;
                }
                at++;
            }
            String deed = tokens.get(at).text;
            int a = 0;
            int b = 0;
            if (deed.equals("more") || deed.equals("less")) {
                a = Integer.parseInt(tokens.get(at + 1).text);
                b = a;
                at++;
                if (tokens.get(at + 1).text.equals("to")) {
                    b = Integer.parseInt(tokens.get(at + 2).text);
                    if (b < a) {
                        blame(2, tokens.get(at + 2).place);
                    }
                    at += 2;
                }
            }
            lines.add(new Line(tests, deed, a, b));
            at += 2;
        }
        return lines;
    }

    private void blame(int what, int where) {
        if (fault == 0) {
            fault = what;
            place = where;
        }
    }

    int fault(int what) {
        return what == 0 ? fault : what == 1 ? place : -1;
    }

    private static boolean holds(Line line, Map<String, Integer> values) {
        for (Test t : line.tests) {
            int v = values.get(t.key);
            boolean so = t.sign == '<' ? v < t.number : t.sign == '>' ? v > t.number : v == t.number;
            if (so == t.not) {
                return false;
            }
        }
        return true;
    }

    private Stone measured(int number, int[] f) {
        Map<String, Integer> values = Map.of("stuff", f[1], "chips", f[2], "lead", f[3], "town", f[4],
                "mark", f[7], "owner", f[8], "age", 2000 - f[6]);
        int low = 0;
        int high = 0;
        for (Line line : wear) {
            if (holds(line, values)) {
                if (line.deed.equals("stop")) {
                    break;
                }
                boolean more = line.deed.equals("more");
                low = more ? low + line.a : low - line.b;
                high = more ? high + line.b : high - line.a;
            }
        }
        low = Math.min(1000, Math.max(-500, low));
        high = Math.min(1000, Math.max(-500, high));
        int base = f[0] - f[3];
        return new Stone(number, f, Math.max(1, base + cut(base * low, 1000)), Math.max(1, base + cut(base * high, 1000)));
    }

    private static int cut(int a, int b) {
        int size = Math.abs(a) / b;
        return a < 0 ? -size : size;
    }

    // 3. Chosen, off, score.

    private List<Stone> all() {
        List<Stone> stones = new ArrayList<>();
        List<int[]> facts = viewed();
        for (int i = 0; i < facts.size(); i++) {
            stones.add(measured(i, facts.get(i)));
        }
        return stones;
    }

    private boolean isChosen(Stone s) {
        int[] f = s.facts;
        boolean year = false;
        for (int y = Math.max(f[5], choice[2]); y <= Math.min(f[6], choice[3]); y++) {
            year = true;
        }
        boolean town = (choice[0] & 1 << f[4]) != 0;
        boolean stuff = (choice[1] & 1 << f[1]) != 0;
        boolean mark = choice[4] == 0 || choice[4] == 1 && f[7] != 0 || choice[4] == 2 && f[7] == 0;
        return f[9] == 1 && town && stuff && year && mark;
    }

    private List<Stone> chosen() {
        List<Stone> stones = all();
        stones.removeIf(s -> !isChosen(s));
        return stones;
    }

    boolean choose(int towns, int stuffs, int y, int z, int marks) {
        if (y < -3000 || y > 1900 || z < -3000 || z > 1900 || y > z || marks < 0 || marks > 2) {
            return false;
        }
        choice = new int[] {towns, stuffs, y, z, marks};
        return true;
    }

    int span(int stone, int what) {
        List<Stone> stones = all();
        if (stone < 0 || stone >= stones.size() || what < 0 || what > 2) {
            return -1;
        }
        Stone s = stones.get(stone);
        return what == 0 ? s.low : what == 1 ? s.high : isChosen(s) ? 1 : 0;
    }

    private static int away(Stone s, long point) {
        return point < s.low ? (int) (s.low - point) : point > s.high ? (int) (point - s.high) : 0;
    }

    private static int times(Stone s, int u) {
        if (s.facts[7] != 0) {
            return s.facts[7];
        }
        int best = 1;
        for (int k = 1; (long) k * u <= s.high + u; k++) {
            if (away(s, (long) k * u) < away(s, (long) best * u)) {
                best = k;
            }
        }
        return best;
    }

    private static int off(Stone s, int u) {
        return Math.min(u, away(s, (long) times(s, u) * u));
    }

    private static boolean near(Stone s, int u) {
        return 8 * off(s, u) <= u;
    }

    private static int shortBy(Stone s, int u) {
        int best = 1;
        for (int k = 1; k * u <= s.high + u; k++) {
            if (Math.abs(k * u - s.high) <= Math.abs(best * u - s.high)) {
                best = k;
            }
        }
        int k = s.facts[7] != 0 ? s.facts[7] : best;
        return Math.max(0, k * u - s.high);
    }

    int by(int stone, int unit, int what) {
        List<Stone> stones = all();
        if (stone < 0 || stone >= stones.size() || !unit(unit) || what < 0 || what > 3) {
            return -1;
        }
        Stone s = stones.get(stone);
        return what == 0 ? off(s, unit) : what == 1 ? (near(s, unit) ? 1 : 0) : what == 2 ? shortBy(s, unit) : times(s, unit);
    }

    private static boolean unit(int u) {
        return u >= 10 && u <= 2000;
    }

    private static boolean units(int a, int b, int reach) {
        return unit(a) && unit(b) && a <= b && b - a <= reach;
    }

    private static int score(List<Stone> stones, int u) {
        return stones.stream().mapToInt(s -> u - 4 * off(s, u)).sum();
    }

    private static Fraction worthOfUnit(List<Stone> stones, int u) {
        return Fraction.of(score(stones, u), u);
    }

    int score(int u) {
        return unit(u) ? score(chosen(), u) : -1000000000;
    }

    private static int best(List<Stone> stones, int a, int b) {
        int best = a;
        Fraction most = worthOfUnit(stones, a);
        for (int u = a; u <= b; u++) {
            Fraction f = worthOfUnit(stones, u);
            if (f.compareTo(most) >= 0) {
                best = u;
                most = f;
            }
        }
        return best;
    }

    int best(int a, int b) {
        return !units(a, b, 300) || chosen().isEmpty() ? -1 : best(chosen(), a, b);
    }

    private static List<Integer> peaks(List<Stone> stones, int a, int b) {
        Map<Integer, Fraction> by = new HashMap<>();
        for (int u = a; u <= b; u++) {
            by.put(u, worthOfUnit(stones, u));
        }
        List<Integer> peaks = new ArrayList<>();
        for (int u = a; u <= b; u++) {
            boolean up = u == a || by.get(u).compareTo(by.get(u - 1)) > 0;
            boolean down = u == b || by.get(u).compareTo(by.get(u + 1)) >= 0;
            if (up && down) {
                peaks.add(u);
            }
        }
        peaks.sort(Comparator.comparing((Integer u) -> by.get(u)).thenComparing(u -> u).reversed());
        return peaks;
    }

    int peak(int a, int b, int k) {
        if (!units(a, b, 300) || chosen().isEmpty()) {
            return -1;
        }
        List<Integer> peaks = peaks(chosen(), a, b);
        return k < 0 || k >= peaks.size() ? -1 : peaks.get(k);
    }

    private static long sum(List<Stone> stones, int u, int v) {
        Fraction sum = Fraction.of(0, 1);
        for (Stone s : stones) {
            Fraction byU = Fraction.of(off(s, u), u);
            Fraction byV = Fraction.of(off(s, v), v);
            Fraction own = byU.compareTo(byV) <= 0 ? byU : byV;
            sum = sum.plus(Fraction.of(1, 1)).plus(new Fraction(own.a.multiply(BigInteger.valueOf(-4)), own.b));
            sum = new Fraction(sum.a.multiply(BigInteger.valueOf((long) u * v)).divide(sum.b), BigInteger.valueOf((long) u * v));
        }
        return sum.a.multiply(BigInteger.valueOf((long) u * v)).divide(sum.b).longValueExact();
    }

    int pair(int a, int b) {
        if (!units(a, b, 40) || a == b || chosen().isEmpty()) {
            return -1;
        }
        List<Stone> stones = chosen();
        Fraction most = null;
        int found = -1;
        for (int v = b; v > a; v--) {
            for (int u = v - 1; u >= a; u--) {
                Fraction f = Fraction.of(sum(stones, u, v), (long) u * v);
                if (most == null || f.compareTo(most) > 0) {
                    most = f;
                    found = 10000 * v + u;
                }
            }
        }
        return found;
    }

    long sum(int u, int v) {
        return !unit(u) || !unit(v) || u >= v ? -1000000000000L : sum(chosen(), u, v);
    }

    // 4. Chance, proof.

    private static int lucky(Stone s, int u) {
        int lucky = 0;
        for (int r = 0; r < u; r++) {
            int end = r + s.high - s.low;
            boolean near = false;
            for (int m = 0; m <= end + u; m += u) {
                int away = m < r ? r - m : m > end ? m - end : 0;
                near |= 8 * away <= u;
            }
            lucky += near ? 1 : 0;
        }
        return lucky;
    }

    private static long tail(List<int[]> draws, int from) {
        long[] p = new long[40];
        p[0] = 1000000000L;
        for (int[] d : draws) {
            long[] old = p.clone();
            for (int j = 0; j < p.length; j++) {
                p[j] = (old[j] * (d[1] - d[0]) + (j == 0 ? 0 : old[j - 1] * d[0])) / d[1];
            }
        }
        long all = 0;
        for (int j = from; j < p.length; j++) {
            all += p[j];
        }
        return all;
    }

    private static long chance(List<Stone> stones, int u) {
        List<int[]> draws = new ArrayList<>();
        for (Stone s : stones) {
            draws.add(new int[] {lucky(s, u), u});
        }
        return tail(draws, (int) stones.stream().filter(s -> near(s, u)).count());
    }

    int chance(int u) {
        return unit(u) ? (int) chance(chosen(), u) : -1;
    }

    int verdict(int unit, int a, int b) {
        if (!units(a, b, 300) || unit < a || unit > b) {
            return -1;
        }
        List<Stone> stones = chosen();
        List<Stone> near = new ArrayList<>(stones);
        near.removeIf(s -> !near(s, unit));
        int many = stones.size();
        long chance = chance(stones, unit);
        long tried = Math.min(1000000000L, chance * (b - a + 1));
        int place = peaks(stones, a, b).indexOf(unit);
        TreeSet<Integer> towns = new TreeSet<>();
        near.forEach(s -> towns.add(s.facts[4]));
        int mean = many == 0 ? 0 : cut(score(stones, unit) * 1000, unit * many);
        Map<String, Integer> values = Map.of("many", many, "near", near.size(), "mean", mean,
                "chance", (int) Math.min(9999, chance / 1000), "tried", (int) Math.min(9999, tried / 1000),
                "place", place < 0 ? 9999 : place, "towns", towns.size(),
                "marks", (int) near.stream().filter(s -> s.facts[7] > 0).count());
        for (Line line : proof) {
            if (holds(line, values)) {
                return List.of("sure", "likely", "open", "against").indexOf(line.deed);
            }
        }
        return 2;
    }

    // 5. Sets, rates, owners, heaps, worth.

    int set(int set, int unit, int what) {
        if (set < 1 || set > 8 || !unit(unit) || what < 0 || what > 3) {
            return -1;
        }
        List<Integer> times = new ArrayList<>();
        for (Stone s : all()) {
            if (s.facts[9] == 1 && s.facts[10] == set) {
                times.add(times(s, unit));
            }
        }
        int greatest = times.stream().mapToInt(t -> t).max().orElse(0);
        if (what == 0) {
            return times.size();
        }
        if (what == 1) {
            return times.size() - new TreeSet<>(times).size();
        }
        int lacks = 0;
        for (int bit = 0; bit < 6; bit++) {
            if (1 << bit <= greatest && !times.contains(1 << bit)) {
                lacks += 1 << bit;
            }
        }
        return what == 2 ? lacks : greatest;
    }

    int rate(int town, int other, int a, int b, int e) {
        if (town < 0 || town > 5 || other < 0 || other > 5 || town == other || e < 0 || e > 200 || !units(a, b, 300)) {
            return -1;
        }
        List<Stone> here = chosen();
        here.removeIf(s -> s.facts[4] != town);
        List<Stone> there = chosen();
        there.removeIf(s -> s.facts[4] != other);
        if (here.isEmpty() || there.isEmpty()) {
            return -1;
        }
        long u = best(here, a, b);
        long v = best(there, a, b);
        int found = -1;
        int least = 100;
        for (int p = 1; p <= 12; p++) {
            for (int q = 1; q <= 12; q++) {
                boolean reduced = BigInteger.valueOf(p).gcd(BigInteger.valueOf(q)).intValue() == 1;
                if (reduced && p + q < least && 1000 * Math.abs(u * q - v * p) <= e * v * p) {
                    least = p + q;
                    found = 100 * p + q;
                }
            }
        }
        return found;
    }

    int drift(int year, int a, int b) {
        if (!units(a, b, 300)) {
            return -100000;
        }
        List<Stone> late = chosen();
        late.removeIf(s -> s.facts[5] < year);
        List<Stone> early = chosen();
        early.removeIf(s -> s.facts[6] >= year);
        return late.isEmpty() || early.isEmpty() ? -100000 : best(late, a, b) - best(early, a, b);
    }

    int owner(int owner, int unit, int what) {
        if (owner < 1 || owner > 9 || !unit(unit) || what < 0 || what > 2) {
            return -1;
        }
        List<Stone> own = chosen();
        own.removeIf(s -> s.facts[8] != owner);
        int shorts = 0;
        List<int[]> draws = new ArrayList<>();
        for (Stone s : own) {
            shorts += Fraction.of(shortBy(s, unit), 1).compareTo(Fraction.of(unit, 100)) > 0 ? 1 : 0;
            draws.add(new int[] {1, 2});
        }
        return what == 0 ? own.size() : what == 1 ? shorts : (int) tail(draws, shorts);
    }

    int heap(int stone, int d) {
        List<Stone> stones = chosen();
        if (d < 0 || d > 500 || stones.stream().noneMatch(s -> s.number == stone)) {
            return -1;
        }
        TreeSet<Integer> heap = new TreeSet<>(List.of(stone));
        for (int size = 0; size != heap.size();) {
            size = heap.size();
            for (Stone s : stones) {
                for (Stone t : stones) {
                    boolean alike = s.facts[4] == t.facts[4] && s.facts[1] == t.facts[1] && s.facts[7] == t.facts[7];
                    if (heap.contains(s.number) && alike && Math.abs(s.facts[0] - t.facts[0]) <= d) {
                        heap.add(t.number);
                    }
                }
            }
        }
        return heap.first();
    }

    private static int worth(List<Stone> stones, int index, int a, int b) {
        Stone s = stones.get(index);
        List<Stone> low = new ArrayList<>(stones);
        low.set(index, new Stone(s.number, s.facts, s.low, s.low));
        List<Stone> high = new ArrayList<>(stones);
        high.set(index, new Stone(s.number, s.facts, s.high, s.high));
        return Math.abs(best(low, a, b) - best(high, a, b));
    }

    int anew(int a, int b) {
        List<Stone> stones = chosen();
        if (!units(a, b, 300) || stones.isEmpty()) {
            return -1;
        }
        int most = -1;
        int found = -1;
        for (int i = 0; i < stones.size(); i++) {
            int w = worth(stones, i, a, b);
            if (w > most) {
                most = w;
                found = stones.get(i).number;
            }
        }
        return found;
    }

    int worth(int stone, int a, int b) {
        List<Stone> stones = chosen();
        for (int i = 0; i < stones.size(); i++) {
            if (stones.get(i).number == stone && units(a, b, 300)) {
                return worth(stones, i, a, b);
            }
        }
        return -1;
    }

    int count(int what) {
        if (what >= 10 && what <= 15) {
            return (int) chosen().stream().filter(s -> s.facts[4] == what - 10).count();
        }
        switch (what) {
            case 0:
                return viewed().size();
            case 1:
                return chosen().size();
            case 2:
                return entries.size();
            case 3:
                return day;
            case 4:
                return view;
            case 5:
                return wear.size();
            case 6:
                return proof.size();
            default:
                return -1;
        }
    }

    boolean image(int k) {
        if (k < 0 || k > 2) {
            return false;
        }
        SlowStones kept = new SlowStones();
        kept.take(this);
        images.put(k, kept);
        return true;
    }

    boolean again(int k) {
        if (!images.containsKey(k)) {
            return false;
        }
        take(images.get(k));
        return true;
    }
}
