import java.util.ArrayList;
import java.util.Arrays;
import java.util.List;

/**
 * Every argument of every call, one at a time, beside its boundaries and at the ends of int: the refusal that is
 * due, and nothing told is changed by it. Then every question once more: asking changes nothing, either.
 */
public final class RefusedTest {
    private static final int MIN = Integer.MIN_VALUE;
    private static final int MAX = Integer.MAX_VALUE;
    private static final int NO = -100000;

    private interface Call {
        long on(StonesOfWeight x, int[] a);
    }

    /** A call, arguments with which it is not refused, what it answers if it is, and what each argument must not be. */
    private record Row(String name, Call call, int[] valid, long refused, int[]... wrong) {
    }

    private static final int[] NO_WHAT = {};
    private static final int[] NO_STONE = {-1, 4, 5, 31, 32, MIN, MAX};
    private static final int[] NO_UNIT = {9, 2001, 0, -1, MIN, MAX};
    private static final int[] NO_A = {9, 61, 0, -1, 2001, MIN, MAX};
    private static final int[] NO_B = {39, 9, 341, 2001, 0, -1, MIN, MAX};

    public static void main(String[] args) {
        List<Row> rows = new ArrayList<>();
        addTelling(rows);
        addFacts(rows);
        addTexts(rows);
        addUnits(rows);
        addFinding(rows);
        for (Row row : rows) {
            check(row);
        }
        Due.sentence("Promise 8: NONE, and nothing comes");
        fullTape();
        Due.finish("RefusedTest");
    }

    private static int[] beside(int least, int most) {
        return new int[] {least - 1, most + 1, MIN, MAX};
    }

    private static void addTelling(List<Row> rows) {
        rows.add(new Row("stone", (x, a) -> x.stone(a[0], a[1], a[2]), new int[] {100, 0, 0}, -1,
                beside(1, 30000), beside(0, 4), beside(0, 5)));
        rows.add(new Row("day", (x, a) -> x.day(a[0]) ? 1 : 0, new int[] {6}, 0, new int[] {5, 0, -1, 10000, MIN, MAX}));
        rows.add(new Row("view", (x, a) -> x.view(a[0]) ? 1 : 0, new int[] {6}, 0, new int[] {7, -2, 9999, 10000, MIN, MAX}));
        rows.add(new Row("fact", (x, a) -> x.fact(a[0], a[1]), new int[] {0, 0}, NO, NO_STONE, beside(0, 10)));
        rows.add(new Row("entry", (x, a) -> x.entry(a[0], a[1]), new int[] {0, 0}, NO,
                new int[] {-1, 13, 399, 400, MIN, MAX}, beside(0, 3)));
        rows.add(new Row("choose", (x, a) -> x.choose(a[0], a[1], a[2], a[3], a[4]) ? 1 : 0,
                new int[] {63, 31, -3000, 1900, 0}, 0, NO_WHAT, NO_WHAT, new int[] {-3001, 1901, MIN, MAX},
                new int[] {-3001, 1901, MIN, MAX}, beside(0, 2)));
        rows.add(new Row("choose, y above z", (x, a) -> x.choose(63, 31, a[0], a[1], 0) ? 1 : 0, new int[] {0, 0}, 0,
                new int[] {1, 1900}, new int[] {-1, -3000}));
        rows.add(new Row("image", (x, a) -> x.image(a[0]) ? 1 : 0, new int[] {0}, 0, beside(0, 2)));
        rows.add(new Row("again", (x, a) -> x.again(a[0]) ? 1 : 0, new int[] {1}, 0, new int[] {0, 2, 3, -1, MIN, MAX}));
        rows.add(new Row("count", (x, a) -> x.count(a[0]), new int[] {0}, -1,
                new int[] {-1, 7, 8, 9, 16, 17, MIN, MAX}));
    }

    private static void addFacts(List<Row> rows) {
        int[] least = {1, 0, 0, 0, 0, -3000, -3000, 0, 0, 0, 0};
        int[] most = {30000, 4, 3, 2000, 5, 1900, 1900, 60, 9, 1, 8};
        for (int f = 0; f <= 10; f++) {
            int fact = f;
            int valid = f == 0 || f == 6 ? most[f] : f == 5 ? least[f] : least[f] + 1;
            rows.add(new Row("tell FACT " + f, (x, a) -> x.tell(a[0], fact, a[1]) ? 1 : 0, new int[] {1, valid}, 0,
                    NO_STONE, beside(least[f], most[f])));
        }
        rows.add(new Row("tell", (x, a) -> x.tell(0, a[0], 1) ? 1 : 0, new int[] {2}, 0, beside(0, 10)));
        // STONE 0 is of WEIGHT 100 with LEAD 20, of a LAYER from -50 to 50.
        rows.add(new Row("tell WEIGHT", (x, a) -> x.tell(0, 0, a[0]) ? 1 : 0, new int[] {21}, 0, new int[] {20, 19, 1}));
        rows.add(new Row("tell LEAD", (x, a) -> x.tell(0, 3, a[0]) ? 1 : 0, new int[] {99}, 0, new int[] {100, 101, 2000}));
        rows.add(new Row("tell FROM", (x, a) -> x.tell(0, 5, a[0]) ? 1 : 0, new int[] {50}, 0, new int[] {51, 1900}));
        rows.add(new Row("tell TO", (x, a) -> x.tell(0, 6, a[0]) ? 1 : 0, new int[] {-50}, 0, new int[] {-51, -3000}));
    }

    private static void addTexts(List<Row> rows) {
        rows.add(new Row("end", (x, a) -> x.end(a[0]), new int[] {11}, -1, new int[] {12, 500, 501, -1, MIN, MAX}));
        rows.add(new Row("fault", (x, a) -> x.fault(a[0]), new int[] {1}, -1, beside(0, 1)));
        rows.add(new Row("span", (x, a) -> x.span(a[0], a[1]), new int[] {0, 0}, -1, NO_STONE, beside(0, 2)));
    }

    private static void addUnits(List<Row> rows) {
        rows.add(new Row("by", (x, a) -> x.by(a[0], a[1], a[2]), new int[] {0, 10, 0}, -1, NO_STONE, NO_UNIT, beside(0, 3)));
        rows.add(new Row("score", (x, a) -> x.score(a[0]), new int[] {10}, -1000000000, NO_UNIT));
        rows.add(new Row("best", (x, a) -> x.best(a[0], a[1]), new int[] {40, 60}, -1, NO_A, NO_B));
        rows.add(new Row("peak", (x, a) -> x.peak(a[0], a[1], a[2]), new int[] {40, 60, 0}, -1, NO_A, NO_B,
                new int[] {-1, 21, 301, MIN, MAX}));
        rows.add(new Row("pair", (x, a) -> x.pair(a[0], a[1]), new int[] {40, 60}, -1,
                new int[] {9, 19, 60, 61, 0, MIN, MAX}, new int[] {40, 39, 81, 2001, 0, MIN, MAX}));
        rows.add(new Row("sum", (x, a) -> x.sum(a[0], a[1]), new int[] {40, 60}, -1000000000000L,
                new int[] {9, 60, 61, 0, MIN, MAX}, new int[] {40, 39, 2001, 0, MIN, MAX}));
        rows.add(new Row("chance", (x, a) -> x.chance(a[0]), new int[] {10}, -1, NO_UNIT));
        rows.add(new Row("verdict", (x, a) -> x.verdict(a[0], a[1], a[2]), new int[] {50, 40, 60}, -1,
                new int[] {39, 61, 0, MIN, MAX}, new int[] {9, 51, 61, 0, MIN, MAX}, new int[] {49, 39, 341, 2001, 0, MIN, MAX}));
    }

    private static void addFinding(List<Row> rows) {
        rows.add(new Row("set", (x, a) -> x.set(a[0], a[1], a[2]), new int[] {1, 10, 0}, -1,
                beside(1, 8), NO_UNIT, beside(0, 3)));
        rows.add(new Row("rate", (x, a) -> x.rate(a[0], a[1], a[2], a[3], a[4]), new int[] {0, 1, 40, 60, 200}, -1,
                new int[] {1, 5, -1, 6, MIN, MAX}, new int[] {0, 5, -1, 6, MIN, MAX}, NO_A, NO_B, beside(0, 200)));
        rows.add(new Row("drift", (x, a) -> x.drift(a[0], a[1], a[2]), new int[] {51, 40, 60}, NO,
                new int[] {-3000, -3001, 1901, MIN, MAX}, NO_A, NO_B));
        rows.add(new Row("owner", (x, a) -> x.owner(a[0], a[1], a[2]), new int[] {1, 10, 0}, -1,
                beside(1, 9), NO_UNIT, beside(0, 2)));
        rows.add(new Row("heap", (x, a) -> x.heap(a[0], a[1]), new int[] {0, 0}, -1,
                new int[] {3, -1, 4, 32, MIN, MAX}, beside(0, 500)));
        rows.add(new Row("anew", (x, a) -> x.anew(a[0], a[1]), new int[] {40, 60}, -1, NO_A, NO_B));
        rows.add(new Row("worth", (x, a) -> x.worth(a[0], a[1], a[2]), new int[] {0, 40, 60}, -1,
                new int[] {3, -1, 4, 32, MIN, MAX}, NO_A, NO_B));
    }

    private static final List<String> CHANGES = List.of("stone", "day", "view", "choose", "image", "again", "end");

    private static void check(Row row) {
        Due.sentence(row.name + ": each argument at and beside its boundaries");
        long[] before = answers(told());
        StonesOfWeight fine = told();
        Due.is(row.name + Arrays.toString(row.valid) + " is refused", row.call.on(fine, row.valid) == row.refused, false);
        boolean changes = row.name.startsWith("tell") || CHANGES.contains(row.name.split(",")[0]);
        if (!changes) {
            Due.is(row.name + " is asked, and all is as it was", Arrays.equals(answers(fine), before), true);
        }
        for (int i = 0; i < row.wrong.length; i++) {
            for (int value : row.wrong[i]) {
                int[] a = row.valid.clone();
                a[i] = value;
                StonesOfWeight x = told();
                String call = row.name + Arrays.toString(a);
                Due.is(call, row.call.on(x, a), row.refused);
                Due.is(call + " is refused, and all is as it was", Arrays.equals(answers(x), before), true);
            }
        }
    }

    /** Four STONES, the last one OUT, on DAY 6; something of all that can be told, and image 1 of an earlier state. */
    private static StonesOfWeight told() {
        StonesOfWeight x = Due.stones(100);
        x.tell(0, 3, 20);
        x.tell(0, 5, -50);
        x.tell(0, 6, 50);
        x.tell(0, 8, 1);
        x.tell(0, 10, 1);
        x.image(1);
        x.day(6);
        x.stone(55, 2, 1);
        x.stone(300, 3, 3);
        x.tell(1, 5, 60);
        x.tell(2, 7, 5);
        x.stone(400, 0, 0);
        x.tell(3, 9, 0);
        x.tell(1, 5, 51);
        Due.wear(x, "if chips=0:more 0 to 100;");
        Due.proof(x, "if many>9:sure;likely;");
        Due.wear(x, "more 5 to 4;");
        Due.tape(x, "stop;less 5");
        x.choose(11, 31, -100, 1900, 0);
        x.view(6);
        return x;
    }

    /** What an object answers to the same questions; the last ones change it. */
    private static long[] answers(StonesOfWeight x) {
        List<Long> all = new ArrayList<>();
        for (int what = 0; what <= 15; what++) {
            all.add((long) x.count(what));
        }
        for (int stone = 0; stone < 5; stone++) {
            addFactsOf(all, x, stone);
            for (int what = 0; what < 3; what++) {
                all.add((long) x.span(stone, what));
            }
        }
        for (int k = 0; k < 14; k++) {
            for (int what = 0; what < 4; what++) {
                all.add((long) x.entry(k, what));
            }
        }
        all.add((long) x.fault(0));
        all.add((long) x.fault(1));
        all.add((long) x.verdict(50, 40, 60));
        all.add((long) x.end(12));
        all.add((long) x.end(11));
        all.add((long) x.text(false));
        all.add((long) x.fault(1));
        x.view(-1);
        for (int stone = 0; stone < 5; stone++) {
            addFactsOf(all, x, stone);
        }
        for (int k = 0; k < 3; k++) {
            all.add(x.again(k) ? 1L : 0L);
            all.add((long) x.count(2));
            addFactsOf(all, x, 0);
        }
        return all.stream().mapToLong(Long::longValue).toArray();
    }

    private static void addFactsOf(List<Long> all, StonesOfWeight x, int stone) {
        for (int f = 0; f <= 10; f++) {
            all.add((long) x.fact(stone, f));
        }
    }

    private static void fullTape() {
        StonesOfWeight x = new StonesOfWeight();
        Due.tape(x, "stop;".repeat(16) + " ".repeat(420));
        int[] numbers = {0, -1, MIN, MAX};
        for (int n : numbers) {
            Due.is("feed of " + n, x.feed(n, n, n, n, n), -1);
        }
        Due.is("500 bytes", x.end(500), 500);
        Due.is("the text that it was", x.text(false), 16);
    }
}
