/** Term 4 and promises 20 and 21: each sentence that names a boundary, with a test of its own. */
public final class EdgeProofTest {
    private static final int ALL = 1000000000;
    private static final int SURE = 0;
    private static final int OPEN = 2;
    private static final int AGAINST = 3;

    public static void main(String[] args) {
        anEighthAtMost();
        placesOfAPoint();
        placesOfTheWide();
        marksAside();
        cut();
        byNumbers();
        fromTheNearOnesOn();
        noChosen();
        chanceRefuses();
        grammarOfProof();
        firstLine();
        openIfNone();
        many();
        mean();
        chanceByThousand();
        tried();
        place();
        townsAndMarks();
        verdictRefuses();
        Due.finish("EdgeProofTest");
    }

    private static void near(int weight, int unit, int due) {
        Due.is(weight + " is NEAR by " + unit, Due.stones(weight).by(0, unit, 1), due);
    }

    private static void anEighthAtMost() {
        Due.sentence("Term 4: NEAR by u is a STONE if 8 * OFF is u at most");
        near(90, 80, 1);
        near(91, 80, 0);
        near(70, 80, 1);
        near(69, 80, 0);
        near(88, 79, 1);
        near(89, 79, 0);
        near(54, 48, 1);
        near(53, 47, 0);
        near(11, 10, 1);
        near(12, 10, 0);
        near(2250, 2000, 1);
        near(2251, 2000, 0);
        near(1, 2000, 0);
        StonesOfWeight x = Due.stones(95);
        x.tell(0, 7, 1);
        Due.is("OFF by all of its UNIT", x.by(0, 10, 1), 0);
        x.tell(0, 7, 60);
        Due.is("OFF by all of its UNIT", x.by(0, 2000, 1), 0);
    }

    private static void placesOfAPoint() {
        Due.sentence("Term 4: of the numbers r, 0 .. u - 1, so many, L, have a SPAN r .. r + WIDE that is near some multiple (0 * u, too)");
        // 10: 0, 1, 9. 15: 0, 1, 14. 16: 0, 1, 2, 14, 15. 2000: 0 .. 250, 1750 .. 1999.
        Due.is("3 of 10", Due.stones(100).chance(10), 300000000);
        Due.is("3 of 15", Due.stones(150).chance(15), 200000000);
        Due.is("5 of 16", Due.stones(160).chance(16), 312500000);
        Due.is("501 of 2000", Due.stones(2000).chance(2000), 250500000);
    }

    private static void placesOfTheWide() {
        Due.sentence("Term 4: WIDE: how much longer the STONE's SPAN is than a point");
        StonesOfWeight x = Due.stones(1000);
        int[] tops = {0, 1, 9, 10, 11, 12, 500};
        int[] due = {ALL, ALL, 875000000, 937500000, ALL, ALL, ALL};
        for (int i = 2; i < tops.length; i++) {
            // By 16, 1008 lies in it: 5 + WIDE of 16, at most all.
            Due.wear(x, "more 0 to " + tops[i] + ";");
            Due.is("SPAN 1000 .. " + (1000 + tops[i]), x.chance(16), due[i]);
        }
        for (int i = 0; i < 2; i++) {
            // 1000 and 1001 are OFF by 8 and 7: none is NEAR, all rows count.
            Due.wear(x, "more 0 to " + tops[i] + ";");
            Due.is("SPAN 1000 .. " + (1000 + tops[i]), x.chance(16), due[i]);
        }
        Due.wear(x, "more 6 to 7;");
        Due.is("SPAN 1006 .. 1007, NEAR: 6 of 16", x.chance(16), 375000000);
    }

    private static void marksAside() {
        Due.sentence("Term 4: MARKS aside");
        StonesOfWeight x = Due.stones(160);
        x.tell(0, 7, 10);
        Due.is("NEAR by its MARK, L as without", x.chance(16), 312500000);
        x.tell(0, 7, 60);
        Due.is("not NEAR by its MARK", x.chance(16), ALL);
        x.stone(160, 0, 0);
        // P(0) = 11 / 16 * 11 / 16: one or more.
        Due.is("one of two, each with L 5", x.chance(16), 527343750);
    }

    private static void cut() {
        Due.sentence("Term 4: P(j) becomes (P(j) * (u - L) + P(j - 1) * L) / u, cut, for all j at once");
        // 3 of 11: P 727272727, 272727272; then 528925619, 396694214, 74380165.
        Due.is("one of one", Due.stones(110).chance(11), 272727272);
        Due.is("none of one", Due.stones(115).chance(11), 999999999);
        Due.is("two of two", Due.stones(110, 110).chance(11), 74380165);
        Due.is("one of two", Due.stones(110, 115).chance(11), 471074379);
        Due.is("none of two", Due.stones(115, 115).chance(11), 999999998);
    }

    private static void byNumbers() {
        Due.sentence("Term 4: CHOSEN STONE by STONE, by numbers");
        StonesOfWeight x = new StonesOfWeight();
        x.stone(1100, 0, 0);
        x.stone(1100, 0, 1);
        // By 11: L 3 and 5. The cuts are others if the wider one comes first.
        Due.wear(x, "if town=1:more 0 to 2;");
        Due.is("3, then 5 of 11", x.chance(11), 123966941);
        Due.wear(x, "if town=0:more 0 to 2;");
        Due.is("5, then 3 of 11", x.chance(11), 123966942);
    }

    private static void fromTheNearOnesOn() {
        Due.sentence("Term 4: CHANCE is all P(j) together for j from the number of NEAR ones on");
        StonesOfWeight x = new StonesOfWeight();
        for (int i = 0; i < 32; i++) {
            x.stone(1000, 0, 0);
        }
        Due.wear(x, "more 0 to 100;");
        Due.is("32 of 32, by all places", x.chance(100), ALL);
        Due.wear(x, "");
        // The 32nd power of a quarter: nothing is left.
        Due.is("32 of 32, by 251 of 1000", x.chance(1000), 0);
        x.tell(0, 0, 1200);
        Due.is("31 of 32", x.chance(1000), 0);
        // 375 of 1500 for each; what is cut off, row by row, is lost.
        Due.is("none of 32", x.chance(1500), 999999824);
    }

    private static void noChosen() {
        Due.sentence("Term 4: rows P, at first P(0) = 1000000000 (and so it stays without STONES)");
        StonesOfWeight x = new StonesOfWeight();
        Due.is("no STONES", x.chance(10), ALL);
        x.stone(100, 0, 0);
        x.chance(10);
        x.choose(0, 0, 0, 0, 0);
        Due.is("none is CHOSEN", x.chance(10), ALL);
    }

    private static void chanceRefuses() {
        Due.sentence("Promise 20: NONE: there is no such UNIT");
        StonesOfWeight x = Due.stones(100);
        int[] wrong = {9, 2001, 0, -1, Integer.MIN_VALUE, Integer.MAX_VALUE};
        for (int unit : wrong) {
            Due.is("chance(" + unit + ")", x.chance(unit), -1);
        }
        Due.is("the least UNIT", x.chance(10), 300000000);
        // 100 is not NEAR by 2000; 1499 and 501 of 2000.
        Due.is("the greatest UNIT", x.chance(2000), ALL);
    }

    private static void proof(String text, int fault, int place) {
        StonesOfWeight x = new StonesOfWeight();
        Due.is("text of " + text, Due.proof(x, text), -1);
        Due.is("fault(0) of " + text, x.fault(0), fault);
        Due.is("fault(1) of " + text, x.fault(1), place);
    }

    private static void grammarOfProof() {
        Due.sentence("Term 4: PROOF is a text as WEAR is, but: LINE: ['if' ..] ('sure' | 'likely' | 'open' | 'against') ';'");
        StonesOfWeight x = new StonesOfWeight();
        Due.is("all four", Due.proof(x, "sure;likely;open;against;"), 4);
        Due.is("each with a TEST", Due.proof(x, "if many=1:sure;if near=1:likely;if mean=1:open;if place=1:against;"), 4);
        proof("stop;", 1, 0);
        proof("more 5;", 1, 0);
        proof("sure 5;", 1, 5);
        proof("sure to 5;", 1, 5);
        proof("sure likely;", 1, 5);
        proof("if many=1:more 5;", 1, 10);
        proof("if many:sure;", 1, 7);
        proof("if many=12345:sure;", 1, 8);
        proof("if chips=1:sure;", 1, 3);
        proof("sure;".repeat(17), 3, 80);
        Due.is("16 LINES", Due.proof(x, "sure;".repeat(16)), 16);
    }

    private static void firstLine() {
        Due.sentence("Term 4: VERDICT .. by the first LINE whose TESTS all hold");
        StonesOfWeight x = Due.stones(100);
        String[] words = {"sure", "likely", "open", "against"};
        for (int i = 0; i < 4; i++) {
            Due.proof(x, "if many>1:sure;" + words[i] + ";against;sure;");
            Due.is(words[i], x.verdict(50, 50, 50), i);
        }
        Due.proof(x, "if many=0:sure;".repeat(15) + "against;");
        Due.is("the 16th", x.verdict(50, 50, 50), AGAINST);
        String[] tests = {"many=1", "near=1", "not mean<1000", "towns>0"};
        String[] broken = {"many=0", "near>1", "mean<1000", "not towns>0"};
        Due.proof(x, "if " + String.join(" and ", tests) + ":sure;against;");
        Due.is("four TESTS hold", x.verdict(50, 50, 50), SURE);
        for (int i = 0; i < 4; i++) {
            String[] one = tests.clone();
            one[i] = broken[i];
            Due.proof(x, "if " + String.join(" and ", one) + ":sure;against;");
            Due.is("TEST " + i + " does not", x.verdict(50, 50, 50), AGAINST);
        }
    }

    private static void openIfNone() {
        Due.sentence("Term 4: open if none does");
        StonesOfWeight x = Due.stones(100);
        Due.is("no text", x.verdict(50, 50, 50), OPEN);
        Due.proof(x, "if many>1:sure;if many<1:against;");
        Due.is("none holds", x.verdict(50, 50, 50), OPEN);
        Due.proof(x, "");
        Due.is("an empty text", x.verdict(50, 50, 50), OPEN);
    }

    /** By = at the value, and by < and > beside it. */
    private static void exactly(StonesOfWeight x, String key, int value, int unit, int a, int b) {
        Due.proof(x, "if " + key + "=" + value + ":sure;against;");
        Due.is(key + " = " + value, x.verdict(unit, a, b), SURE);
        Due.proof(x, "if " + key + "<" + value + ":against;if " + key + ">" + value + ":against;sure;");
        Due.is(key + " is neither less nor more than " + value, x.verdict(unit, a, b), SURE);
    }

    private static void many() {
        Due.sentence("Term 4: (many: CHOSEN; near: of them NEAR");
        StonesOfWeight x = new StonesOfWeight();
        exactly(x, "many", 0, 50, 50, 50);
        exactly(x, "near", 0, 50, 50, 50);
        for (int i = 0; i < 32; i++) {
            x.stone(i % 2 == 0 ? 56 : 57, 0, 0);
        }
        exactly(x, "many", 32, 50, 50, 50);
        exactly(x, "near", 16, 50, 50, 50);
        x.tell(0, 9, 0);
        exactly(x, "many", 31, 50, 50, 50);
        exactly(x, "near", 15, 50, 50, 50);
    }

    private static void mean() {
        Due.sentence("Term 4: mean: SCORE * 1000 / (u * many), cut towards 0, 0 without STONES");
        exactly(new StonesOfWeight(), "mean", 0, 2000, 2000, 2000);
        exactly(Due.stones(2000), "mean", 1000, 2000, 2000, 2000);
        // 2000 - 4 * 1: 998.
        exactly(Due.stones(2001), "mean", 998, 2000, 2000, 2000);
        // (3 * 10 - 4) * 1000 / 30 is 866.6.
        exactly(Due.stones(10, 10, 11), "mean", 866, 10, 10, 10);
        // 8000 - 8004 by 8000 is half a thousandth below 0; twice as far is a whole one.
        exactly(Due.stones(2501, 2500, 2500, 2500), "mean", 0, 2000, 2000, 2000);
        StonesOfWeight below = Due.stones(2501, 2501, 2500, 2500);
        Due.proof(below, "if mean<0:sure;against;");
        Due.is("a thousandth below 0", below.verdict(2000, 2000, 2000), SURE);
        StonesOfWeight least = new StonesOfWeight();
        for (int i = 0; i < 32; i++) {
            least.stone(1, 0, 0);
            least.tell(i, 7, 60);
        }
        Due.proof(least, "if mean<0 and near=0:sure;against;");
        Due.is("the least", least.verdict(2000, 2000, 2000), SURE);
    }

    private static StonesOfWeight fourOf2000(int third, int fourth) {
        StonesOfWeight x = new StonesOfWeight();
        for (int town = 0; town < 4; town++) {
            x.stone(2000, 0, town);
        }
        StringBuilder text = new StringBuilder();
        text.append("if town=2:more 0 to ").append(third).append(";if town=3:more 0 to ").append(fourth).append(";");
        Due.wear(x, text.toString());
        return x;
    }

    private static void chanceByThousand() {
        Due.sentence("Term 4: chance, tried: by 1000, cut, 9999 at most");
        Due.is("9998577", fourOf2000(40, 298).chance(2000), 9998577);
        exactly(fourOf2000(40, 298), "chance", 9998, 2000, 2000, 2000);
        Due.is("9999738", fourOf2000(66, 253).chance(2000), 9999738);
        exactly(fourOf2000(66, 253), "chance", 9999, 2000, 2000, 2000);
        Due.is("10000428", fourOf2000(46, 287).chance(2000), 10000428);
        exactly(fourOf2000(46, 287), "chance", 9999, 2000, 2000, 2000);
        exactly(new StonesOfWeight(), "chance", 9999, 2000, 2000, 2000);
        StonesOfWeight none = new StonesOfWeight();
        for (int i = 0; i < 32; i++) {
            none.stone(1000, 0, 0);
        }
        exactly(none, "chance", 0, 1000, 1000, 1000);
    }

    private static void tried() {
        Due.sentence("Term 4: TRIED: CHANCE times the number of UNITS from a to b, at most 1000000000");
        StonesOfWeight x = Due.stones(50, 100, 150, 200, 250, 300);
        // 13 of 50, six times: 308915 (and less than one, cut) billionths.
        Due.is("CHANCE", x.chance(50), 308915);
        exactly(x, "tried", 308, 50, 50, 50);
        exactly(x, "tried", 617, 50, 50, 51);
        exactly(x, "tried", 617, 50, 49, 50);
        exactly(x, "tried", 9885, 50, 40, 71);
        exactly(x, "tried", 9999, 50, 40, 72);
        exactly(x, "tried", 9999, 50, 10, 310);
        exactly(new StonesOfWeight(), "tried", 9999, 310, 10, 310);
    }

    private static void place() {
        Due.sentence("Term 4: place: among the PEAKS, from 0 on, 9999 if it is none");
        StonesOfWeight x = Due.stones(100);
        exactly(x, "place", 0, 50, 45, 99);
        exactly(x, "place", 1, 99, 45, 99);
        exactly(x, "place", 9999, 45, 45, 99);
        exactly(x, "place", 9999, 51, 45, 99);
        exactly(x, "place", 0, 99, 55, 99);
        exactly(x, "place", 1, 55, 55, 99);
        exactly(x, "place", 2, 20, 20, 50);
        exactly(x, "place", 0, 57, 57, 57);
        // BEST, but no PEAK: 12 is not greater than 11.
        exactly(Due.stones(132), "place", 9999, 12, 10, 13);
        exactly(Due.stones(132), "place", 0, 11, 10, 13);
        Due.is("9999 by a NUMBER of four digits", Due.proof(x, "if place>9998:sure;"), 1);
        Due.is("no PEAK", x.verdict(51, 45, 99), SURE);
    }

    private static void townsAndMarks() {
        Due.sentence("Term 4: towns: how many TOWNS have a NEAR one; marks: how many NEAR ones have a MARK.)");
        StonesOfWeight x = new StonesOfWeight();
        exactly(x, "towns", 0, 50, 50, 50);
        exactly(x, "marks", 0, 50, 50, 50);
        for (int town = 0; town < 6; town++) {
            x.stone(50, 0, town);
            x.stone(70, 0, town);
        }
        exactly(x, "towns", 6, 50, 50, 50);
        x.tell(0, 0, 70);
        exactly(x, "towns", 5, 50, 50, 50);
        x.tell(1, 0, 50);
        exactly(x, "towns", 6, 50, 50, 50);
        x.tell(2, 7, 1);
        x.tell(3, 7, 1);
        x.tell(4, 7, 2);
        exactly(x, "marks", 1, 50, 50, 50);
        exactly(x, "towns", 5, 50, 50, 50);
    }

    private static void verdictRefuses() {
        Due.sentence("Promise 21: NONE: other numbers, or it is none of these");
        StonesOfWeight x = Due.stones(100);
        Due.proof(x, "sure;");
        int[][] wrong = {{39, 40, 60}, {61, 40, 60}, {50, 60, 40}, {9, 9, 20}, {10, 9, 20}, {2001, 1990, 2001},
            {2000, 1990, 2001}, {100, 10, 311}, {Integer.MIN_VALUE, 40, 60}, {Integer.MAX_VALUE, 40, 60},
            {50, Integer.MIN_VALUE, 60}, {50, 40, Integer.MAX_VALUE}, {50, Integer.MIN_VALUE, Integer.MAX_VALUE}};
        for (int[] w : wrong) {
            Due.is("verdict(" + w[0] + ", " + w[1] + ", " + w[2] + ")", x.verdict(w[0], w[1], w[2]), -1);
        }
        int[][] right = {{40, 40, 60}, {60, 40, 60}, {10, 10, 10}, {2000, 2000, 2000}, {10, 10, 310}, {2000, 1700, 2000}};
        for (int[] r : right) {
            Due.is("verdict(" + r[0] + ", " + r[1] + ", " + r[2] + ")", x.verdict(r[0], r[1], r[2]), SURE);
        }
        x.choose(0, 0, 0, 0, 0);
        Due.is("none is CHOSEN: by the text all the same", x.verdict(50, 40, 60), SURE);
    }
}
