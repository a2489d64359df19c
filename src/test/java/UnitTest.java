/** Promises 15 to 19: score, best, peak, pair, sum. */
public final class UnitTest {
    private static final long NO_SUM = -1000000000000L;
    private static final int[][] WRONG = {{9, 20}, {20, 2001}, {21, 20}, {10, 311}, {-5, 5}, {0, 0},
        {Integer.MIN_VALUE, Integer.MAX_VALUE}, {Integer.MAX_VALUE, Integer.MIN_VALUE}};

    public static void main(String[] args) {
        score();
        best();
        bestOfAlikes();
        peaks();
        plateau();
        pair();
        sum();
        Due.finish("UnitTest");
    }

    private static void score() {
        StonesOfWeight x = Due.stones(100, 150);
        Due.is("score(50)", x.score(50), 100);
        Due.is("score(49)", x.score(49), 78);
        Due.is("score(60)", x.score(60), -80);
        Due.is("score(10)", x.score(10), 20);
        Due.is("score(2000)", x.score(2000), 4000 - 4 * 1900 - 4 * 1850);
        x.tell(1, 7, 60);
        Due.is("score(10) with a MARK far off", x.score(10), 10 + 10 - 40);
        x.tell(1, 9, 0);
        Due.is("score(10) of the one that is CHOSEN", x.score(10), 10);
        x.tell(0, 9, 0);
        Due.is("score(10) of none", x.score(10), 0);
        Due.is("no such UNIT", x.score(9), -1000000000);
        Due.is("no such UNIT", x.score(2001), -1000000000);
        Due.is("no such UNIT", x.score(0), -1000000000);
        Due.is("no such UNIT", x.score(Integer.MIN_VALUE), -1000000000);
    }

    private static void best() {
        StonesOfWeight x = Due.stones(100, 150);
        Due.is("best(49, 60)", x.best(49, 60), 50);
        Due.is("best(10, 60)", x.best(10, 60), 50);
        Due.is("best(10, 49)", x.best(10, 49), 25);
        Due.is("best(10, 24)", x.best(10, 24), 10);
        Due.is("best(26, 26)", x.best(26, 26), 26);
        Due.is("best(10, 310)", x.best(10, 310), 50);
        Due.is("best(1700, 2000)", x.best(1700, 2000), 1700);
        for (int[] w : WRONG) {
            Due.is("best of other numbers", x.best(w[0], w[1]), -1);
        }
        x.choose(0, 31, 0, 0, 0);
        Due.is("none is CHOSEN", x.best(10, 60), -1);
        Due.is("no STONES", new StonesOfWeight().best(10, 60), -1);
    }

    /** Scores 32 and 40 are unlike, but both are 1 by their units. */
    private static void bestOfAlikes() {
        StonesOfWeight x = Due.stones(160);
        Due.is("40 and 32 are alike", x.best(31, 41), 40);
        Due.is("33 is not", x.best(31, 39), 32);
    }

    private static void peaks() {
        StonesOfWeight x = Due.stones(100, 150);
        Due.is("the best first", x.peak(10, 60, 0), 50);
        Due.is("alike, the greater first", x.peak(10, 60, 1), 25);
        Due.is("alike, the greater first", x.peak(10, 60, 2), 10);
        Due.is("none below 0", x.peak(10, 60, -1), -1);
        Due.is("no such", x.peak(10, 60, 1000), -1);
        Due.is("no such", x.peak(10, 60, Integer.MAX_VALUE), -1);
        Due.is("one UNIT is a PEAK", x.peak(33, 33, 0), 33);
        Due.is("and no other", x.peak(33, 33, 1), -1);
        // 49: 78 / 49, 50: 2, 51: (51 - 8 + 51 - 12) / 51 = 82 / 51: 50 alone.
        Due.is("50 alone", x.peak(49, 51, 0), 50);
        Due.is("50 alone", x.peak(49, 51, 1), -1);
        Due.is("the ends count", x.peak(51, 52, 0), 51);
        Due.is("the ends count", x.peak(48, 49, 0), 49);
        // One STONE of 100: by 48 off by 4, by 49 2, by 50 0, by 51 2: UNITS rise to 50 and fall behind it.
        StonesOfWeight y = Due.stones(100);
        Due.is("33 and 50 alone", y.peak(29, 60, 0), 50);
        Due.is("33 and 50 alone", y.peak(29, 60, 1), 33);
        Due.is("33 and 50 alone", y.peak(29, 60, 2), -1);
        for (int[] w : WRONG) {
            Due.is("peak of other numbers", x.peak(w[0], w[1], 0), -1);
        }
        x.choose(0, 31, 0, 0, 0);
        Due.is("none is CHOSEN", x.peak(10, 60, 0), -1);
    }

    /** Far from its MARK a STONE is off by the whole UNIT, by any: all are alike. */
    private static void plateau() {
        StonesOfWeight x = Due.stones(30000);
        x.tell(0, 7, 1);
        Due.is("the greatest of UNITS alike", x.best(10, 20), 20);
        Due.is("greater than that below, not less than that above", x.peak(10, 20, 0), 10);
        Due.is("no other", x.peak(10, 20, 1), -1);
    }

    private static void pair() {
        StonesOfWeight x = Due.stones(100, 107);
        Due.is("pair(90, 110)", x.pair(90, 110), 1070100);
        Due.is("pair(70, 110)", x.pair(70, 110), 1070100);
        Due.is("pair(69, 110)", x.pair(69, 110), -1);
        Due.is("both ends", Due.stones(70, 110).pair(70, 110), 1100070);
        Due.is("a is b", x.pair(100, 100), -1);
        Due.is("two alone", x.pair(100, 101), 1010100);
        for (int[] w : WRONG) {
            Due.is("pair of other numbers", x.pair(w[0], w[1]), -1);
        }
        Due.is("alike: the greatest v, then u", Due.stones(120).pair(10, 12), 120011);
        // Of 10 .. 13 for 130: 10 and 13 are not off; v is 13, u the greatest below it.
        Due.is("alike: the greatest v, then u", Due.stones(130).pair(10, 13), 130012);
        Due.is("alike: v 13 rather than u 12", Due.stones(120, 130).pair(10, 13), 130012);
        // By 10 and 12, of 98: 2 off each, 2 / 12 is less than 2 / 10; by 11 1 off: 1 / 11. Of 104: 4, 5, 4.
        // (11, 12): 2 - 4 / 11 - 16 / 12; (10, 11): 2 - 4 / 11 - 16 / 10; (10, 12): 2 - 8 / 12 - 16 / 12.
        Due.is("off by all", Due.stones(98, 104).pair(10, 12), 120011);
        // 97 by 10: 3, 11: 2, 12: 1; 103 by 10: 3, 11: 4, 12: 5: 10 takes 103, 12 takes 97.
        Due.is("each by its own", Due.stones(97, 103).pair(10, 12), 120010);
        x.choose(0, 31, 0, 0, 0);
        Due.is("none is CHOSEN", x.pair(90, 110), -1);
        Due.is("no STONES", new StonesOfWeight().pair(90, 110), -1);
    }

    private static void sum() {
        StonesOfWeight x = Due.stones(95);
        Due.is("sum(10, 20)", x.sum(10, 20), 0);
        Due.is("sum(10, 2000)", x.sum(10, 2000), -20000);
        Due.is("sum(19, 20)", x.sum(19, 20), 380);
        Due.is("sum(20, 1900)", x.sum(20, 1900), 38000 - 4 * 5 * 1900);
        x.stone(107, 0, 0);
        // 95 by 20: 5 off, by 11: 4 off: 5 * 11 against 4 * 20; 107 by 20: 7 off, by 11: 3: 77 against 60.
        Due.is("sum(11, 20)", x.sum(11, 20), 440 - 4 * 55 - 4 * 60);
        Due.is("alike UNITS", x.sum(20, 20), NO_SUM);
        Due.is("u above v", x.sum(21, 20), NO_SUM);
        Due.is("no such UNIT", x.sum(9, 20), NO_SUM);
        Due.is("no such UNIT", x.sum(20, 2001), NO_SUM);
        Due.is("no such UNIT", x.sum(Integer.MIN_VALUE, Integer.MAX_VALUE), NO_SUM);
        x.choose(0, 31, 0, 0, 0);
        Due.is("none is CHOSEN", x.sum(10, 20), 0);
    }
}
