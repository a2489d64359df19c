/** Term 3 and promises 12 and 14 to 19: each sentence that names a boundary, with a test of its own. */
public final class EdgeUnitTest {
    private static final int NO_SCORE = -1000000000;
    private static final long NO_SUM = -1000000000000L;
    /** What is not from a to b: too small, too large, turned round, too wide, and what would wrap around. */
    private static final int[][] NO_RANGE = {{9, 20}, {9, 9}, {1990, 2001}, {2001, 2001}, {21, 20}, {10, 311},
        {1699, 2000}, {0, 0}, {-20, -10}, {-5, 20}, {Integer.MIN_VALUE, 10}, {10, Integer.MAX_VALUE},
        {Integer.MIN_VALUE, Integer.MAX_VALUE}, {Integer.MAX_VALUE, Integer.MIN_VALUE}};

    public static void main(String[] args) {
        inOfTownsAndStuffs();
        aYearFromYToZ();
        withOrWithoutAMark();
        unitsTo2000();
        offFromTheNearest();
        zeroIfOneLiesInIt();
        fromTheMark();
        atMostTheUnit();
        scoreOfAll();
        exactly();
        alikeTheGreater();
        fromAToB();
        noneIsBetter();
        peakBetweenNeighbours();
        peakAtTheEnds();
        bestPeakFirst();
        twoUnits();
        bestPair();
        pairReach();
        chooseRefuses();
        byRefuses();
        sumRefuses();
        whateverWasAsked();
        Due.finish("EdgeUnitTest");
    }

    private static void inOfTownsAndStuffs() {
        Due.sentence("Term 3: CHOSEN are STONES that are IN, of told TOWNS (bits), STUFFS (bits)");
        StonesOfWeight x = new StonesOfWeight();
        for (int i = 0; i < 30; i++) {
            x.stone(100, i % 5, i / 5);
        }
        for (int town = 0; town < 6; town++) {
            x.choose(1 << town, 31, -3000, 1900, 0);
            Due.is("of TOWN " + town, x.count(1), 5);
            Due.is("all of them", x.count(10 + town), 5);
            Due.is("the first of it", x.span(5 * town, 2), 1);
        }
        for (int stuff = 0; stuff < 5; stuff++) {
            x.choose(63, 1 << stuff, -3000, 1900, 0);
            Due.is("of STUFF " + stuff, x.count(1), 6);
            Due.is("the last of it", x.span(25 + stuff, 2), 1);
        }
        x.choose(0, 31, -3000, 1900, 0);
        Due.is("of no TOWN", x.count(1), 0);
        x.choose(63, 0, -3000, 1900, 0);
        Due.is("of no STUFF", x.count(1), 0);
        x.choose(32, 16, -3000, 1900, 0);
        Due.is("the last alone", x.count(1), 1);
        x.tell(29, 9, 0);
        Due.is("OUT", x.count(1), 0);
        x.tell(29, 9, 1);
        Due.is("IN again", x.count(1), 1);
    }

    private static void aYearFromYToZ() {
        Due.sentence("Term 3: whose LAYER has a year from y to z (all at first; -3000 .. 1900)");
        StonesOfWeight x = Due.stones(100, 100, 100);
        x.tell(0, 6, -3000);
        x.tell(1, 5, 1900);
        x.tell(2, 5, -10);
        x.tell(2, 6, 10);
        int[][] rows = {{-3000, -3000, 1, 0, 0}, {-2999, 1899, 0, 0, 1}, {1900, 1900, 0, 1, 0}, {-3000, 1900, 1, 1, 1},
            {-3000, -11, 1, 0, 0}, {-3000, -10, 1, 0, 1}, {10, 1900, 0, 1, 1}, {11, 1900, 0, 1, 0}, {0, 0, 0, 0, 1},
            {-10, -10, 0, 0, 1}, {10, 10, 0, 0, 1}, {-11, -11, 0, 0, 0}, {11, 11, 0, 0, 0}};
        Due.is("all at first", x.count(1), 3);
        for (int[] r : rows) {
            Due.is("choose", x.choose(63, 31, r[0], r[1], 0), true);
            for (int s = 0; s < 3; s++) {
                Due.is("STONE " + s + " from " + r[0] + " to " + r[1], x.span(s, 2), r[2 + s]);
            }
        }
    }

    private static void withOrWithoutAMark() {
        Due.sentence("Term 3: with or without a MARK (0 all, 1 with, 2 without)");
        StonesOfWeight x = Due.stones(100, 100, 100);
        x.tell(1, 7, 1);
        x.tell(2, 7, 60);
        int[][] due = {{1, 1, 1}, {0, 1, 1}, {1, 0, 0}};
        for (int marks = 0; marks < 3; marks++) {
            x.choose(63, 31, -3000, 1900, marks);
            for (int s = 0; s < 3; s++) {
                Due.is("STONE " + s + " by marks " + marks, x.span(s, 2), due[marks][s]);
            }
        }
    }

    private static void unitsTo2000() {
        Due.sentence("Term 3: A UNIT is 10 .. 2000");
        StonesOfWeight x = Due.stones(2000);
        x.tell(0, 8, 1);
        x.tell(0, 10, 1);
        int[] wrong = {9, 2001, 0, -10, Integer.MIN_VALUE, Integer.MAX_VALUE};
        for (int u : wrong) {
            long[] got = {x.by(0, u, 0), x.score(u), x.best(u, u), x.peak(u, u, 0), x.sum(u, 100), x.sum(100, u),
                x.chance(u), x.verdict(u, u, u), x.set(1, u, 0), x.owner(1, u, 0), x.anew(u, u), x.worth(0, u, u)};
            long[] due = {-1, NO_SCORE, -1, -1, NO_SUM, NO_SUM, -1, -1, -1, -1, -1, -1};
            for (int i = 0; i < due.length; i++) {
                Due.is("question " + i + " by UNIT " + u, got[i], due[i]);
            }
        }
        int[] right = {10, 2000};
        for (int u : right) {
            long[] got = {x.by(0, u, 0), x.score(u), x.best(u, u), x.peak(u, u, 0), x.verdict(u, u, u), x.set(1, u, 0),
                x.owner(1, u, 0), x.anew(u, u), x.worth(0, u, u)};
            long[] due = {0, u, u, u, 2, 1, 1, 0, 0};
            for (int i = 0; i < due.length; i++) {
                Due.is("question " + i + " by UNIT " + u, got[i], due[i]);
            }
        }
        Due.is("both ends at once", x.sum(10, 2000), 20000);
    }

    private static void off(StonesOfWeight x, int unit, int due) {
        Due.is("OFF by " + unit, x.by(0, unit, 0), due);
    }

    private static void offFromTheNearest() {
        Due.sentence("Term 3: how far its SPAN is from the nearest multiple k * u, k 1 or more");
        StonesOfWeight x = Due.stones(95);
        off(x, 10, 5);
        off(x, 96, 1);
        off(x, 94, 1);
        off(x, 48, 1);
        off(x, 64, 31);
        off(x, 63, 31);
        off(x, 190, 95);
        off(x, 2000, 1905);
        x.tell(0, 0, 1);
        off(x, 10, 9);
        off(x, 2000, 1999);
        x.tell(0, 0, 30000);
        off(x, 10, 0);
        off(x, 2000, 0);
        off(x, 1999, 15);
        off(x, 11, 3);
    }

    private static void zeroIfOneLiesInIt() {
        Due.sentence("Term 3: (0 if one lies in it)");
        StonesOfWeight x = Due.stones(95);
        Due.wear(x, "more 0 to 100;");
        Due.is("from 95", x.span(0, 0), 95);
        Due.is("to 104", x.span(0, 1), 104);
        off(x, 95, 0);
        off(x, 104, 0);
        off(x, 52, 0);
        off(x, 100, 0);
        off(x, 10, 0);
        off(x, 105, 1);
        off(x, 94, 1);
        off(x, 47, 1);
        off(x, 53, 2);
        off(x, 66, 28);
        off(x, 2000, 1896);
    }

    private static void fromTheMark() {
        Due.sentence("Term 3: with a MARK, from MARK * u");
        StonesOfWeight x = Due.stones(95);
        x.tell(0, 7, 2);
        off(x, 50, 5);
        off(x, 45, 5);
        off(x, 47, 1);
        off(x, 95, 95);
        x.tell(0, 7, 1);
        off(x, 95, 0);
        off(x, 2000, 1905);
        Due.wear(x, "more 0 to 100;");
        x.tell(0, 7, 4);
        off(x, 25, 0);
        off(x, 24, 0);
        off(x, 26, 0);
        off(x, 27, 4);
        off(x, 23, 3);
    }

    private static void atMostTheUnit() {
        Due.sentence("Term 3: at most u, though");
        StonesOfWeight x = Due.stones(95);
        x.tell(0, 7, 1);
        off(x, 48, 47);
        off(x, 47, 47);
        off(x, 46, 46);
        off(x, 10, 10);
        x.tell(0, 7, 2);
        off(x, 94, 93);
        off(x, 95, 95);
        off(x, 96, 96);
        x.tell(0, 7, 60);
        off(x, 2000, 2000);
        off(x, 10, 10);
    }

    private static void scoreOfAll() {
        Due.sentence("Term 3: SCORE of a UNIT: u - 4 * OFF of all CHOSEN, together");
        StonesOfWeight x = new StonesOfWeight();
        Due.is("of none", x.score(2000), 0);
        for (int i = 0; i < 32; i++) {
            x.stone(2000, 0, i % 6);
        }
        Due.is("the greatest", x.score(2000), 64000);
        for (int i = 0; i < 32; i++) {
            x.tell(i, 7, 60);
        }
        Due.is("the least", x.score(2000), -192000);
        x.choose(1, 31, -3000, 1900, 0);
        Due.is("of those CHOSEN alone", x.score(2000), -36000);
        x.choose(0, 31, -3000, 1900, 0);
        Due.is("of none CHOSEN", x.score(2000), 0);
    }

    private static void exactly() {
        Due.sentence("Term 3: UNITS are held against one another by SCORE / u (exactly); the greater is better");
        // 100 by 51: 43 / 51, by 52: 36 / 52: both between a half and 1.
        Due.is("43 / 51 and 36 / 52", Due.stones(100).best(51, 52), 51);
        // 20 by 10: 10 / 10; by 19: 15 / 19.
        Due.is("the SCORE alone would tell 19", Due.stones(20).best(10, 19), 10);
        // 20 by 12: -4 / 12, by 13: -11 / 13.
        Due.is("below 0, too", Due.stones(20).best(12, 13), 12);
        // OFF 999 + 999 of 1999 and 1000 + 999 of 2000: 1998 / 1999 is less by one part in four millions.
        Due.is("1998 / 1999 and 1999 / 2000 off", Due.stones(1000, 2999).best(1999, 2000), 1999);
        Due.is("1 / 1999 and 1 / 2000 off", Due.stones(3999).best(1999, 2000), 2000);
    }

    private static void alikeTheGreater() {
        Due.sentence("Term 3: of UNITS alike in that the greater UNIT");
        Due.is("32 and 40 of 160", Due.stones(160).best(31, 41), 40);
        Due.is("all that divide 2000, to 250", Due.stones(2000).best(10, 260), 250);
        Due.is("11 and 12 of 132", Due.stones(132).best(10, 13), 12);
        StonesOfWeight x = Due.stones(30000);
        x.tell(0, 7, 1);
        Due.is("all are OFF by themselves", x.best(10, 310), 310);
        Due.is("all are OFF by themselves", x.best(1700, 2000), 2000);
    }

    private static void fromAToB() {
        Due.sentence("Term 3: Of all UNITS from a to b (10 .. 2000, a not above b, b - a at most 300)");
        StonesOfWeight x = Due.stones(310);
        Due.is("to the 301st", x.best(10, 310), 310);
        Due.is("from the first", Due.stones(10).best(10, 310), 10);
        Due.is("to 2000", Due.stones(2000).best(1700, 2000), 2000);
        Due.is("from 1700", Due.stones(1700).best(1700, 2000), 1700);
        Due.is("one alone", x.best(77, 77), 77);
        for (int[] r : NO_RANGE) {
            long[] got = {x.best(r[0], r[1]), x.peak(r[0], r[1], 0), x.pair(r[0], r[1]), x.verdict(r[0], r[0], r[1]),
                x.rate(0, 1, r[0], r[1], 0), x.anew(r[0], r[1]), x.worth(0, r[0], r[1])};
            for (int i = 0; i < got.length; i++) {
                Due.is("question " + i + " from " + r[0] + " to " + r[1], got[i], -1);
            }
            Due.is("DRIFT from " + r[0] + " to " + r[1], x.drift(0, r[0], r[1]), -100000);
        }
    }

    private static void noneIsBetter() {
        Due.sentence("Promise 16: BEST of the UNITS from a to b. NONE: other numbers, or none is CHOSEN");
        StonesOfWeight x = new StonesOfWeight();
        Due.is("no STONES", x.best(10, 20), -1);
        x.stone(100, 0, 0);
        Due.is("one", x.best(10, 20), 20);
        x.tell(0, 9, 0);
        Due.is("it is OUT", x.best(10, 20), -1);
        x.tell(0, 9, 1);
        x.choose(62, 31, -3000, 1900, 0);
        Due.is("none is of these TOWNS", x.best(10, 20), -1);
        Due.is("no PEAK then", x.peak(10, 20, 0), -1);
        Due.is("no pair then", x.pair(10, 20), -1);
        Due.is("none to weigh anew then", x.anew(10, 20), -1);
    }

    private static void peaks(StonesOfWeight x, int a, int b, int... due) {
        for (int k = 0; k < due.length; k++) {
            Due.is("peak(" + a + ", " + b + ", " + k + ")", x.peak(a, b, k), due[k]);
        }
        Due.is("peak(" + a + ", " + b + ", " + due.length + ")", x.peak(a, b, due.length), -1);
    }

    private static void peakBetweenNeighbours() {
        Due.sentence("Term 3: A PEAK is one whose SCORE / u is greater than that of u - 1, and not less than that of u + 1");
        // 53: -2 / 10, 3 / 11, -8 / 12, 9 / 13: 11 is one, though 13, two above it, is better.
        peaks(Due.stones(53), 10, 13, 13, 11);
        // 23: -2 / 10, 7 / 11, 8 / 12, 1 / 13: 11 is none, though it is better than 13.
        peaks(Due.stones(23), 10, 13, 12);
        // 132: 2 / 10, 1, 1, 5 / 13: 11 is greater than 10 and not less than 12; 12 is not greater than 11.
        StonesOfWeight x = Due.stones(132);
        peaks(x, 10, 13, 11);
        Due.is("BEST is another one", x.best(10, 13), 12);
        // All alike: the least has none below it.
        StonesOfWeight flat = Due.stones(30000);
        flat.tell(0, 7, 1);
        peaks(flat, 10, 310, 10);
    }

    private static void peakAtTheEnds() {
        Due.sentence("Term 3: (where these are from a to b)");
        StonesOfWeight x = Due.stones(100);
        peaks(x, 50, 50, 50);
        peaks(x, 57, 57, 57);
        peaks(x, 50, 60, 50);
        peaks(x, 45, 50, 50);
        peaks(x, 51, 60, 51);
        peaks(x, 45, 48, 48);
        peaks(x, 10, 10, 10);
        peaks(x, 2000, 2000, 2000);
        peaks(x, 1700, 2000, 1700);
    }

    private static void bestPeakFirst() {
        Due.sentence("Term 3: PEAKS are told the best first (Promise 17: PEAK k, from 0 on. NONE: there is none such)");
        // 100 from 45 to 99 rises to 50, falls to 67 and rises again: 1 and 95 / 99.
        peaks(Due.stones(100), 45, 99, 50, 99);
        // 99 alone is better than what is left of 50's hill.
        peaks(Due.stones(100), 55, 99, 99, 55);
        StonesOfWeight x = Due.stones(100);
        Due.is("alike, the greater first", x.peak(20, 50, 0), 50);
        Due.is("alike, the greater first", x.peak(20, 50, 1), 25);
        Due.is("alike, the greater first", x.peak(20, 50, 2), 20);
        int[] wrong = {-1, 31, 301, Integer.MIN_VALUE, Integer.MAX_VALUE};
        for (int k : wrong) {
            Due.is("peak(20, 50, " + k + ")", x.peak(20, 50, k), -1);
        }
    }

    private static void twoUnits() {
        Due.sentence("Term 3: a STONE is of that one by which OFF / UNIT is less, of u if they are alike; their SUM");
        StonesOfWeight x = Due.stones(95);
        // 5 / 10 and 5 / 20: 1 - 20 / 20.
        Due.is("by v", x.sum(10, 20), 0);
        // 0 by 19, 5 by 20.
        Due.is("by u", x.sum(19, 20), 380);
        // 5 / 15 and 10 / 30 are alike: 1 - 4 / 3.
        StonesOfWeight y = Due.stones(50);
        Due.is("alike", y.sum(15, 30), 450 - 4 * 150);
        StonesOfWeight many = new StonesOfWeight();
        for (int i = 0; i < 32; i++) {
            many.stone(2000, 0, 0);
        }
        Due.is("the greatest", many.sum(1999, 2000), 32L * 1999 * 2000);
        for (int i = 0; i < 32; i++) {
            many.tell(i, 7, 60);
        }
        Due.is("the least", many.sum(1999, 2000), -3L * 32 * 1999 * 2000);
        many.choose(0, 0, 0, 0, 0);
        Due.is("of none CHOSEN", many.sum(1999, 2000), 0);
    }

    private static void bestPair() {
        Due.sentence("Term 3: BEST PAIR: that with the greatest SUM; of several that with the greatest v, then the greatest u");
        Due.is("the greatest v", Due.stones(120).pair(10, 12), 120011);
        Due.is("then the greatest u", Due.stones(130).pair(10, 13), 130012);
        Due.is("of all pairs with 12, and 10 with 13", Due.stones(156, 120).pair(10, 13), 130012);
        // 1 / 10 + 1 / 11 + 1 / 10 and 1 / 14 + 2 / 14 + 1 / 13 off: 2912 and 2909 of 10000.
        Due.is("101 / 55 and 167 / 91", Due.stones(69, 54, 79).pair(10, 14), 110010);
        StonesOfWeight x = Due.stones(30000);
        x.tell(0, 7, 1);
        Due.is("all alike", x.pair(10, 50), 500049);
        // 16 by 10: 4 / 10, by 11: 5 / 11, by 12: 4 / 12 off: 1 - 4 / 3 is the greatest.
        Due.is("below 0", Due.stones(16).pair(10, 12), 120011);
    }

    private static void pairReach() {
        Due.sentence("Term 3: TWO UNITS u < v from a to b (b - a at most 40); Promise 18: NONE: .. a is b");
        Due.is("both ends", Due.stones(70, 110).pair(70, 110), 1100070);
        Due.is("both ends, to 2000", Due.stones(1960, 2000).pair(1960, 2000), 20001960);
        Due.is("both ends, from 10", Due.stones(10, 50).pair(10, 50), 500010);
        StonesOfWeight x = Due.stones(100);
        Due.is("41 apart", x.pair(70, 111), -1);
        Due.is("40 apart", x.pair(70, 110), 1100100);
        Due.is("1 apart", x.pair(70, 71), 710070);
        Due.is("a is b", x.pair(100, 100), -1);
        Due.is("a is above b", x.pair(101, 100), -1);
        Due.is("41 apart, at the top", x.pair(1959, 2000), -1);
    }

    private static void chooseRefuses() {
        Due.sentence("Promise 12: false: y or z is not -3000 .. 1900, y is above z, or marks is not 0 .. 2");
        StonesOfWeight x = Due.stones(100);
        Due.is("a CHOICE", x.choose(2, 31, -3000, 1900, 0), true);
        int[][] wrong = {{-3001, 0, 0}, {0, 1901, 0}, {1901, 1901, 0}, {-3001, -3001, 0}, {1, 0, 0}, {1900, -3000, 0},
            {0, 0, -1}, {0, 0, 3}, {Integer.MIN_VALUE, 0, 0}, {0, Integer.MAX_VALUE, 0}, {0, 0, Integer.MIN_VALUE},
            {0, 0, Integer.MAX_VALUE}, {Integer.MAX_VALUE, Integer.MIN_VALUE, 0}};
        for (int[] w : wrong) {
            Due.is("choose of " + w[0] + ", " + w[1] + ", " + w[2], x.choose(1, 31, w[0], w[1], w[2]), false);
            Due.is("CHOSEN are those that were", x.count(1), 0);
        }
        Due.is("one year", x.choose(1, 31, 0, 0, 2), true);
        Due.is("it is CHOSEN", x.count(1), 1);
        Due.sentence("Promise 12: (Bits of TOWNS, STUFFS that are none count for nothing.)");
        Due.is("TOWN 6 and more", x.choose(~63, 31, 0, 0, 0), true);
        Due.is("of no TOWN", x.count(1), 0);
        Due.is("STUFF 5 and more", x.choose(63, ~31, 0, 0, 0), true);
        Due.is("of no STUFF", x.count(1), 0);
        Due.is("all bits", x.choose(-1, -1, 0, 0, 0), true);
        Due.is("it is CHOSEN", x.count(1), 1);
        Due.is("all bits but one", x.choose(~1, -1, 0, 0, 0), true);
        Due.is("not CHOSEN", x.count(1), 0);
        Due.is("the highest bit", x.choose(Integer.MIN_VALUE | 1, Integer.MIN_VALUE | 1, 0, 0, 0), true);
        Due.is("it is CHOSEN", x.count(1), 1);
    }

    private static void byRefuses() {
        Due.sentence("Promise 14: NONE: there is none such, or for another what; Promise 15: there is no such UNIT");
        StonesOfWeight x = new StonesOfWeight();
        Due.is("no STONES at all", x.by(0, 10, 0), -1);
        Due.is("SCORE of a UNIT without STONES", x.score(10), 0);
        x.stone(100, 0, 0);
        x.tell(0, 9, 0);
        Due.is("one that is OUT", x.by(0, 30, 0), 10);
        int[] wrong = {-1, 4, Integer.MIN_VALUE, Integer.MAX_VALUE};
        for (int what : wrong) {
            Due.is("by(0, 30, " + what + ")", x.by(0, 30, what), -1);
        }
        int[] numbers = {-1, 1, 32, Integer.MIN_VALUE, Integer.MAX_VALUE};
        for (int stone : numbers) {
            Due.is("by(" + stone + ", 30, 3)", x.by(stone, 30, 3), -1);
        }
    }

    private static void sumRefuses() {
        Due.sentence("Promise 19: -1000000000000: there are no such UNITS, or u is not less than v");
        StonesOfWeight x = Due.stones(100);
        int[][] wrong = {{20, 20}, {21, 20}, {9, 20}, {20, 2001}, {9, 2001}, {2000, 10}, {-10, 20}, {0, 0},
            {Integer.MIN_VALUE, 20}, {20, Integer.MAX_VALUE}, {Integer.MIN_VALUE, Integer.MAX_VALUE}};
        for (int[] w : wrong) {
            Due.is("sum(" + w[0] + ", " + w[1] + ")", x.sum(w[0], w[1]), NO_SUM);
        }
        Due.is("not in least terms, with u * v below", x.sum(10, 20), 200);
        Due.is("further apart than pairs are", x.sum(10, 2000), 20000);
        Due.is("next to one another", x.sum(1999, 2000), 1999L * 2000 - 4 * 1899L * 2000);
    }

    /** The first STONE is CHOSEN alone, once from the start and once behind questions about 32. */
    private static void whateverWasAsked() {
        Due.sentence("Term 3: of all CHOSEN (of those that are it now, whatever was asked ahead of it)");
        StonesOfWeight alone = Due.stones(100);
        StonesOfWeight x = Due.stones(100);
        for (int i = 1; i < 32; i++) {
            x.stone(70 + i % 2, 0, 0);
        }
        Due.wear(alone, "more 0 to 40;");
        Due.wear(x, "more 0 to 40;");
        long[] all = questions(x);
        for (int i = 1; i < 32; i++) {
            x.tell(i, 9, 0);
        }
        long[] due = questions(alone);
        long[] got = questions(x);
        int others = 0;
        for (int i = 0; i < due.length; i++) {
            Due.is("question " + i, got[i], due[i]);
            others += all[i] == due[i] ? 0 : 1;
        }
        Due.is("most answers are others by all 32", others > due.length / 2, true);
        StonesOfWeight y = Due.stones(100, 70);
        Due.is("a pair for both", y.pair(70, 110), 1000070);
        y.tell(1, 9, 0);
        Due.is("a pair for one", y.pair(70, 110), 1100100);
    }

    private static long[] questions(StonesOfWeight x) {
        return new long[] {x.score(30), x.best(60, 110), x.peak(60, 110, 0), x.peak(60, 110, 1), x.pair(70, 110),
            x.sum(70, 71), x.chance(70), x.anew(60, 110), x.worth(0, 60, 110), x.heap(0, 30), x.count(1), x.count(10)};
    }
}
