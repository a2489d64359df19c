import java.util.Random;

/** Long runs of calls, made from fixed seeds, held call by call against SlowStones. */
public final class ModelTest {
    private static final String[] WORDS = {"if", "not", "and", "to", "more", "less", "stop", "sure", "likely", "open",
        "against", "stuff", "chips", "lead", "town", "mark", "owner", "age", "many", "near", "mean", "chance", "tried",
        "place", "towns", "marks", ":", ";", "<", ">", "=", "0", "7", "12345", "0099", "%", "\t", "A", "mor", "ifnot", "\u00e9"};
    private static final String[] WEAR_KEYS = {"stuff", "chips", "lead", "town", "mark", "owner", "age"};
    private static final int[] WEAR_MOST = {4, 3, 2000, 5, 60, 9, 5000};
    private static final String[] PROOF_KEYS = {"many", "near", "mean", "chance", "tried", "place", "towns", "marks"};
    private static final int[] PROOF_MOST = {20, 12, 1000, 9999, 9999, 9, 5, 8};

    /** What an object answers behind these is free. */
    private static final int CALLS = 512;
    private static final int CALLS_OF_A_TEXT = 30;

    private final Random random;
    private final StonesOfWeight x = new StonesOfWeight();
    private final SlowStones model = new SlowStones();
    private final int seed;
    private final int width;
    private int calls = 0;

    private ModelTest(int seed) {
        this.seed = seed;
        this.random = new Random(seed);
        this.width = seed % 10 == 0 ? 300 : 12;
    }

    public static void main(String[] args) {
        int first = args.length > 0 ? Integer.parseInt(args[0]) : 1;
        int last = args.length > 1 ? Integer.parseInt(args[1]) : 150;
        for (int seed = first; seed <= last; seed++) {
            new ModelTest(seed).run();
        }
        Due.finish("ModelTest");
    }

    private void run() {
        int stones = pick(0, 34);
        for (int i = 0; i < stones; i++) {
            list();
        }
        // Every third run tells much of few towns, owners and sets at first, and asks more than it changes.
        boolean full = seed % 3 == 0;
        for (int stone = 0; full && stone < stones; stone++) {
            tellMuch(stone);
        }
        while (calls < CALLS) {
            if (random.nextInt(100) < (full ? 15 : 55)) {
                change();
            } else {
                ask();
            }
        }
    }

    private int pick(int least, int most) {
        return least + random.nextInt(most - least + 1);
    }

    /** Mostly from least to most, seldom outside, seldom any int. */
    private int some(int least, int most) {
        int kind = random.nextInt(40);
        if (kind == 0) {
            return random.nextBoolean() ? least - 1 : most + 1;
        }
        if (kind == 1) {
            return random.nextBoolean() ? random.nextInt() : random.nextBoolean() ? Integer.MIN_VALUE : Integer.MAX_VALUE;
        }
        return kind < 5 ? (random.nextBoolean() ? least : most) : pick(least, most);
    }

    private int stoneNumber() {
        return some(0, Math.max(0, model.count(0) - 1));
    }

    private int weight() {
        int kind = random.nextInt(4);
        return kind == 0 ? some(1, 30000) : kind == 1 ? some(1, 60) : 40 * pick(1, 20) + pick(-3, 3);
    }

    private void due(String call, long got, long want) {
        calls++;
        Due.is("seed " + seed + ", call " + calls + ": " + call, got, want);
    }

    private void due(String call, boolean got, boolean want) {
        due(call, got ? 1 : 0, want ? 1 : 0);
    }

    private void list() {
        int w = weight();
        int s = some(0, 4);
        int t = some(0, 5);
        due("stone " + w + " " + s + " " + t, x.stone(w, s, t), model.stone(w, s, t));
    }

    private void change() {
        int kind = random.nextInt(30);
        if (kind < 2) {
            list();
        } else if (kind < 18) {
            tell();
        } else if (kind < 20) {
            int d = random.nextInt(30) == 0 ? some(0, 9999) : model.count(3) + pick(-1, 3);
            due("day " + d, x.day(d), model.day(d));
        } else if (kind < 22) {
            int d = some(-1, model.count(3));
            due("view " + d, x.view(d), model.view(d));
        } else if (kind < 25) {
            if (calls <= CALLS - CALLS_OF_A_TEXT) {
                readText();
            }
        } else if (kind < 27) {
            int y = some(-3000, 1900);
            int z = some(-3000, 1900);
            int towns = random.nextInt(3) == 0 ? random.nextInt() : -1;
            int stuffs = random.nextInt(3) == 0 ? random.nextInt() : -1;
            int marks = random.nextInt(2) == 0 ? 0 : some(0, 2);
            if (random.nextBoolean()) {
                y = -3000;
            }
            if (random.nextBoolean()) {
                z = 1900;
            }
            due("choose " + towns + " " + stuffs + " " + y + " " + z + " " + marks,
                    x.choose(towns, stuffs, y, z, marks), model.choose(towns, stuffs, y, z, marks));
        } else if (kind < 29) {
            int k = some(0, 2);
            due("image " + k, x.image(k), model.image(k));
        } else {
            int k = some(0, 2);
            due("again " + k, x.again(k), model.again(k));
        }
    }

    private void tellMuch(int stone) {
        told(stone, 8, pick(0, 2));
        told(stone, 10, pick(0, 2));
        told(stone, 4, pick(0, 2));
        told(stone, 1, pick(0, 1));
        told(stone, 0, random.nextBoolean() ? pick(90, 120) : weight());
        boolean late = random.nextBoolean();
        told(stone, late ? 5 : 6, late ? pick(0, 500) : pick(-500, 0));
        if (random.nextInt(4) == 0) {
            told(stone, 7, pick(1, 4));
        }
    }

    private void told(int stone, int fact, int value) {
        due("tell " + stone + " " + fact + " " + value, x.tell(stone, fact, value), model.tell(stone, fact, value));
    }

    private void tell() {
        int[] least = {1, 0, 0, 0, 0, -3000, -3000, 0, 0, 0, 0};
        int[] most = {30000, 4, 3, 2000, 5, 1900, 1900, 60, 9, 1, 8};
        int s = stoneNumber();
        int f = some(0, 10);
        int v = f >= 0 && f <= 10 ? some(least[f], most[f]) : 0;
        if (f == 0) {
            v = weight();
        } else if (f == 3 && random.nextBoolean()) {
            v = pick(0, 30);
        } else if (f == 7) {
            v = random.nextBoolean() ? 0 : some(0, 20);
        } else if (f == 9) {
            v = random.nextInt(4) == 0 ? some(0, 1) : 1;
        } else if (f == 8 || f == 10) {
            v = random.nextBoolean() ? pick(0, 2) : v;
        }
        told(s, f, v);
    }

    private void readText() {
        boolean proof = random.nextBoolean();
        String text = random.nextInt(4) == 0 ? anyText() : soundText(proof);
        if (random.nextInt(8) == 0 && !text.isEmpty()) {
            int at = random.nextInt(text.length());
            text = text.substring(0, at) + (random.nextBoolean() ? "" : WORDS[random.nextInt(WORDS.length)])
                    + text.substring(Math.min(text.length(), at + pick(0, 2)));
        }
        text = text.length() > 500 ? text.substring(0, 500) : text;
        if (random.nextInt(6) != 0) {
            due("end 0", x.end(0), model.end(0));
        }
        for (int at = 0; at < text.length(); at += 20) {
            int[] n = new int[5];
            for (int i = 0; i < 20; i++) {
                n[i / 4] = n[i / 4] << 8 | (at + i < text.length() ? text.charAt(at + i) : 32);
            }
            due("feed", x.feed(n[0], n[1], n[2], n[3], n[4]), model.feed(n));
        }
        int n = random.nextInt(10) == 0 ? some(0, 500) : text.length();
        due("end " + n, x.end(n), model.end(n));
        if (random.nextInt(10) != 0) {
            due("text " + proof + " of " + text, x.text(proof), model.text(proof));
            due("fault 0 of " + text, x.fault(0), model.fault(0));
            due("fault 1 of " + text, x.fault(1), model.fault(1));
        }
    }

    private String anyText() {
        StringBuilder text = new StringBuilder();
        for (int i = pick(0, 12); i > 0; i--) {
            text.append(WORDS[random.nextInt(WORDS.length)]).append(random.nextBoolean() ? " " : "");
        }
        return text.toString();
    }

    private String blank() {
        int kind = random.nextInt(12);
        return kind == 0 ? "\n" : kind == 1 ? "  " : " ";
    }

    private String soundText(boolean proof) {
        StringBuilder text = new StringBuilder();
        int lines = random.nextInt(12) == 0 ? pick(14, 20) : pick(0, 7);
        for (int line = 0; line < lines; line++) {
            int tests = lines > 12 || random.nextInt(3) == 0 ? 0 : random.nextInt(15) == 0 ? pick(4, 6) : pick(1, 2);
            for (int t = 0; t < tests; t++) {
                int key = random.nextInt(proof ? 8 : 7);
                int bound = random.nextInt(3) == 0 ? pick(0, 9) : pick(0, proof ? PROOF_MOST[key] : WEAR_MOST[key]);
                text.append(t == 0 ? "if" : "and").append(blank()).append(random.nextInt(4) == 0 ? "not " : "")
                        .append(proof ? PROOF_KEYS[key] : WEAR_KEYS[key]).append("<>=".charAt(random.nextInt(3)))
                        .append(bound).append(t == tests - 1 ? ":" : blank());
            }
            text.append(proof ? WORDS[pick(7, 10)] : wearDeed()).append(";").append(random.nextInt(5) == 0 ? blank() : "");
        }
        return text.toString();
    }

    private String wearDeed() {
        if (random.nextInt(10) == 0) {
            return "stop";
        }
        int a = random.nextInt(12) == 0 ? pick(0, 9999) : pick(0, 60);
        String deed = (random.nextInt(4) == 0 ? "less " : "more ") + a;
        int b = random.nextInt(25) == 0 ? a - 1 : a + pick(0, random.nextInt(10) == 0 ? 2000 : 40);
        return random.nextBoolean() || b < 0 ? deed : deed + " to " + Math.min(9999, b);
    }

    private void ask() {
        int a = random.nextInt(3) == 0 ? some(10, 2000) : some(10, 90);
        int b = random.nextInt(10) == 0 ? some(10, 2000) : a + some(0, width);
        int u = random.nextBoolean() ? a : some(10, 100);
        int s = stoneNumber();
        int kind = random.nextInt(27);
        switch (kind) {
            case 0 -> {
                int f = some(0, 10);
                due("fact " + s + " " + f, x.fact(s, f), model.fact(s, f));
            }
            case 1 -> {
                int k = some(0, Math.max(0, model.count(2) - 1));
                int w = some(0, 3);
                due("entry " + k + " " + w, x.entry(k, w), model.entry(k, w));
            }
            case 2 -> {
                int w = some(0, 2);
                due("span " + s + " " + w, x.span(s, w), model.span(s, w));
            }
            case 3, 4 -> {
                int w = some(0, 3);
                due("by " + s + " " + u + " " + w, x.by(s, u, w), model.by(s, u, w));
            }
            case 5 -> due("score " + u, x.score(u), model.score(u));
            case 6 -> due("best " + a + " " + b, x.best(a, b), model.best(a, b));
            case 7, 8 -> {
                int k = some(0, 3);
                due("peak " + a + " " + b + " " + k, x.peak(a, b, k), model.peak(a, b, k));
            }
            case 9 -> due("pair " + a + " " + b, x.pair(a, b), model.pair(a, b));
            case 10 -> due("sum " + u + " " + b, x.sum(u, b), model.sum(u, b));
            case 11 -> due("chance " + u, x.chance(u), model.chance(u));
            case 12, 13, 14 -> {
                int v = random.nextInt(8) == 0 ? some(10, 2000) : b > a && (long) b - a <= 300 ? pick(a, b) : a;
                due("verdict " + v + " " + a + " " + b, x.verdict(v, a, b), model.verdict(v, a, b));
            }
            case 15, 16 -> {
                int set = some(1, 8);
                set = random.nextBoolean() ? pick(1, 2) : set;
                int w = some(0, 3);
                due("set " + set + " " + u + " " + w, x.set(set, u, w), model.set(set, u, w));
            }
            case 17, 18 -> {
                int t = some(0, random.nextBoolean() ? 2 : 5);
                int o = some(0, random.nextBoolean() ? 2 : 5);
                int e = some(0, 200);
                due("rate " + t + " " + o + " " + a + " " + b + " " + e, x.rate(t, o, a, b, e), model.rate(t, o, a, b, e));
            }
            case 19 -> {
                int y = random.nextBoolean() ? pick(-20, 20) : some(-3000, 1900);
                due("drift " + y + " " + a + " " + b, x.drift(y, a, b), model.drift(y, a, b));
            }
            case 20, 21 -> {
                int o = random.nextBoolean() ? pick(1, 2) : some(1, 9);
                int w = some(0, 2);
                due("owner " + o + " " + u + " " + w, x.owner(o, u, w), model.owner(o, u, w));
            }
            case 22 -> {
                int d = random.nextBoolean() ? pick(0, 12) : some(0, 500);
                due("heap " + s + " " + d, x.heap(s, d), model.heap(s, d));
            }
            case 23 -> due("anew " + a + " " + b, x.anew(a, b), model.anew(a, b));
            case 24 -> due("worth " + s + " " + a + " " + b, x.worth(s, a, b), model.worth(s, a, b));
            default -> {
                int w = some(0, 15);
                due("count " + w, x.count(w), model.count(w));
            }
        }
    }
}
