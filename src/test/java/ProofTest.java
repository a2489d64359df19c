/** Promises 20 and 21: chance, verdict. */
public final class ProofTest {
    private static final int SURE = 0;
    private static final int LIKELY = 1;
    private static final int OPEN = 2;
    private static final int AGAINST = 3;

    public static void main(String[] args) {
        chance();
        chanceOfWide();
        chanceBesideMarks();
        wrongVerdicts();
        firstLine();
        everyKey();
        withoutStones();
        below0();
        Due.finish("ProofTest");
    }

    private static void chance() {
        StonesOfWeight x = Due.stones(100);
        Due.is("13 of 50", x.chance(50), 260000000);
        Due.is("none is NEAR", x.chance(60), 1000000000);
        x.stone(150, 0, 0);
        Due.is("one of two by 7 of 30, cut", x.chance(30), 412222221);
        Due.is("both by 13 of 50", x.chance(50), 67600000);
        x.tell(0, 9, 0);
        Due.is("one is CHOSEN", x.chance(50), 260000000);
        x.tell(1, 9, 0);
        Due.is("none is CHOSEN", x.chance(50), 1000000000);
        StonesOfWeight all = new StonesOfWeight();
        for (int s = 0; s < 32; s++) {
            all.stone(700, 0, 0);
        }
        // By WIDE 65 and more every place of 100 is NEAR: all of it moves on, STONE by STONE, to the last.
        Due.wear(all, "more 0 to 200;");
        Due.is("32 of 32", all.chance(100), 1000000000);
        all.choose(0, 0, 0, 0, 0);
        Due.is("none of none, whatever was asked ahead of it", all.chance(100), 1000000000);
        Due.is("no such UNIT", x.chance(9), -1);
        Due.is("no such UNIT", x.chance(2001), -1);
        Due.is("no such UNIT", x.chance(0), -1);
        Due.is("no such UNIT", x.chance(Integer.MAX_VALUE), -1);
    }

    private static void chanceOfWide() {
        StonesOfWeight x = Due.stones(100);
        Due.wear(x, "more 0 to 100;");
        Due.is("10 wider: 23 of 50", x.chance(50), 460000000);
        Due.is("all of 10", x.chance(10), 1000000000);
        Due.is("17 of 25", x.chance(25), 17 * 40000000);
        // 23 of 50 for 100, 13 of 50 for 130, which is not NEAR: one or more, 1 - 27 / 50 * 37 / 50.
        x.stone(130, 1, 0);
        Due.wear(x, "if stuff=0:more 0 to 100;");
        Due.is("one of two", x.chance(50), 600400000);
    }

    private static void chanceBesideMarks() {
        StonesOfWeight x = Due.stones(100);
        x.tell(0, 7, 2);
        Due.is("NEAR by its MARK", x.chance(50), 260000000);
        x.tell(0, 7, 3);
        Due.is("not NEAR by its MARK", x.chance(50), 1000000000);
    }

    private static void wrongVerdicts() {
        StonesOfWeight x = Due.stones(100);
        int[][] wrong = {{39, 40, 60}, {61, 40, 60}, {10, 9, 20}, {2000, 1990, 2001}, {20, 21, 20}, {20, 10, 311},
            {0, 0, 0}, {5, Integer.MIN_VALUE, Integer.MAX_VALUE}};
        for (int[] w : wrong) {
            Due.is("verdict of other numbers", x.verdict(w[0], w[1], w[2]), -1);
        }
        Due.is("the least UNIT", x.verdict(40, 40, 60), OPEN);
        Due.is("the greatest UNIT", x.verdict(60, 40, 60), OPEN);
        Due.is("the widest", x.verdict(310, 10, 310), OPEN);
    }

    private static void firstLine() {
        StonesOfWeight x = Due.stones(100);
        String[] words = {"sure", "likely", "open", "against"};
        for (int i = 0; i < 4; i++) {
            Due.proof(x, words[i] + ";sure;");
            Due.is(words[i], x.verdict(50, 40, 60), i);
        }
        Due.proof(x, "if many>1:sure;if many=1 and near=1:likely;against;");
        Due.is("the first whose TESTS hold", x.verdict(50, 40, 60), LIKELY);
        Due.is("the first whose TESTS hold", x.verdict(60, 40, 60), AGAINST);
        x.stone(100, 0, 0);
        Due.is("the first whose TESTS hold", x.verdict(60, 40, 60), SURE);
        Due.proof(x, "if not many=2:sure;");
        Due.is("open if none does", x.verdict(50, 40, 60), OPEN);
    }

    private static void exactly(StonesOfWeight x, String key, int value, int unit, int a, int b) {
        Due.proof(x, "if " + key + "=" + value + ":sure;against;");
        Due.is(key + " is " + value, x.verdict(unit, a, b), SURE);
        Due.proof(x, "if not " + key + "<" + value + " and not " + key + ">" + value + ":likely;against;");
        Due.is(key + " is " + value, x.verdict(unit, a, b), LIKELY);
    }

    private static void everyKey() {
        StonesOfWeight x = Due.stones(50, 100, 150, 200, 250, 300);
        exactly(x, "many", 6, 50, 40, 60);
        exactly(x, "near", 6, 50, 40, 60);
        exactly(x, "mean", 1000, 50, 40, 60);
        exactly(x, "chance", 308, 50, 40, 60);
        exactly(x, "tried", 6487, 50, 40, 60);
        exactly(x, "tried", 308, 50, 50, 50);
        exactly(x, "tried", 9999, 50, 10, 100);
        exactly(x, "tried", 9885, 50, 40, 71);
        exactly(x, "tried", 9999, 50, 40, 72);
        exactly(x, "chance", 9999, 47, 40, 60);
        exactly(x, "place", 0, 50, 40, 60);
        exactly(x, "place", 9999, 51, 40, 60);
        exactly(x, "place", 1, 25, 20, 60);
        exactly(x, "towns", 1, 50, 40, 60);
        exactly(x, "marks", 0, 50, 40, 60);
        x.tell(0, 4, 5);
        x.tell(1, 4, 5);
        x.tell(2, 4, 3);
        x.tell(2, 7, 3);
        x.tell(3, 7, 5);
        x.tell(4, 7, 5);
        exactly(x, "near", 5, 50, 40, 60);
        exactly(x, "towns", 3, 50, 40, 60);
        exactly(x, "marks", 2, 50, 40, 60);
        // One of six is off by 50, its whole UNIT: (6 * 50 - 200) * 1000 / 300, cut.
        exactly(x, "mean", 333, 50, 40, 60);
        x.tell(2, 0, 170);
        exactly(x, "towns", 2, 50, 40, 60);
        exactly(x, "marks", 1, 50, 40, 60);
        exactly(Due.stones(50, 100, 150, 200), "chance", 4569, 50, 40, 60);
        StonesOfWeight y = Due.stones(50, 70);
        y.tell(0, 7, 1);
        y.tell(0, 4, 3);
        exactly(y, "towns", 1, 50, 40, 60);
        exactly(y, "marks", 1, 50, 40, 60);
        placeBehindOthers();
    }

    private static void placeBehindOthers() {
        StonesOfWeight x = Due.stones(100, 150);
        for (int k = 0; k < 6; k++) {
            exactly(x, "place", k, x.peak(10, 60, k), 10, 60);
        }
    }

    private static void withoutStones() {
        StonesOfWeight x = new StonesOfWeight();
        exactly(x, "many", 0, 50, 40, 60);
        exactly(x, "near", 0, 50, 40, 60);
        exactly(x, "mean", 0, 50, 40, 60);
        exactly(x, "chance", 9999, 50, 40, 60);
        exactly(x, "tried", 9999, 50, 40, 60);
        exactly(x, "towns", 0, 50, 40, 60);
        exactly(x, "marks", 0, 50, 40, 60);
        exactly(x, "place", 9999, 50, 40, 60);
        // All UNITS are alike then: the least has none below it and is not less than the next.
        exactly(x, "place", 0, 40, 40, 60);
    }

    private static void below0() {
        // 1 is off by 1999 of 2000: (2000 - 7996) * 1000 / 2000 is -2998.
        StonesOfWeight x = Due.stones(1);
        Due.proof(x, "if mean<1:sure;");
        Due.is("mean below 0", x.verdict(2000, 2000, 2000), SURE);
        // 100 by 79: off by 21, 79 - 84 is -5, -63.29 thousandths.
        x.tell(0, 0, 100);
        Due.proof(x, "if mean=0:likely;if mean<0:sure;");
        Due.is("mean below 0", x.verdict(79, 79, 79), SURE);
        StonesOfWeight y = Due.stones(2000, 2000, 2000, 2500, 2500, 2500, 2501);
        // 7 * 2000 - 4 * (500 * 3 + 501) is 5996.
        exactly(y, "mean", 428, 2000, 2000, 2000);
        StonesOfWeight z = Due.stones(2501, 2500, 2500, 2500);
        // 4 * 2000 - 4 * 2001 is -4, by 8000 half a thousandth below 0.
        exactly(z, "mean", 0, 2000, 2000, 2000);
    }
}
