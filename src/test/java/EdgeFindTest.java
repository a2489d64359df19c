/** Term 5 and promises 22 to 28: each sentence that names a boundary, with a test of its own. */
public final class EdgeFindTest {
    private static final int ALL = 1000000000;
    private static final int NO_DRIFT = -100000;

    public static void main(String[] args) {
        timesOneOrMore();
        timesTheLeast();
        timesByTheMark();
        chosenOrNotButIn();
        doubles();
        lacks();
        setRefuses();
        ratesToTwelve();
        rateByE();
        rateInLeastTerms();
        rateRefuses();
        driftByAYear();
        driftRefuses();
        shortOfTheNearest();
        shortByTheMark();
        moreThanAHundredth();
        suspicion();
        ownerRefuses();
        twins();
        heapsByTwins();
        heapRefuses();
        worthOfBothEnds();
        worthBesideOthers();
        worthRefuses();
        anewTheLeast();
        Due.finish("EdgeFindTest");
    }

    private static void times(StonesOfWeight x, int unit, int due) {
        Due.is("TIMES by " + unit, x.by(0, unit, 3), due);
    }

    private static void timesOneOrMore() {
        Due.sentence("Term 5: TIMES .. the k of the multiple nearest to its SPAN (1 or more");
        times(Due.stones(1), 10, 1);
        times(Due.stones(1), 2000, 1);
        times(Due.stones(4), 10, 1);
        times(Due.stones(16), 10, 2);
        times(Due.stones(14), 10, 1);
        times(Due.stones(30000), 10, 3000);
        StonesOfWeight x = Due.stones(30000);
        Due.wear(x, "more 1000;");
        times(x, 10, 6000);
        times(x, 2000, 30);
    }

    private static void timesTheLeast() {
        Due.sentence("Term 5: of several the least");
        times(Due.stones(15), 10, 1);
        times(Due.stones(25), 10, 2);
        times(Due.stones(3000), 2000, 1);
        StonesOfWeight x = Due.stones(1000);
        Due.wear(x, "more 0 to 100;");
        times(x, 10, 100);
        times(x, 11, 91);
        times(x, 1000, 1);
        times(x, 1100, 1);
        times(x, 550, 2);
        times(x, 99, 11);
        // 1002 .. 1008 by 10: 2 from 1000, 2 from 1010.
        Due.wear(x, "more 2 to 8;");
        times(x, 10, 100);
        Due.wear(x, "more 3 to 8;");
        times(x, 10, 101);
    }

    private static void timesByTheMark() {
        Due.sentence("Term 5: its MARK, if it has one");
        StonesOfWeight x = Due.stones(95);
        x.tell(0, 7, 60);
        times(x, 10, 60);
        times(x, 2000, 60);
        x.tell(0, 7, 1);
        times(x, 10, 1);
        x.tell(0, 7, 0);
        times(x, 10, 9);
    }

    private static void sets(StonesOfWeight x, int set, int... due) {
        for (int what = 0; what < 4; what++) {
            Due.is("set(" + set + ", 10, " + what + ")", x.set(set, 10, what), due[what]);
        }
    }

    private static void chosenOrNotButIn() {
        Due.sentence("Term 5: A SET's STONES (CHOSEN or not, but IN)");
        StonesOfWeight x = Due.stones(10, 20);
        x.tell(0, 10, 1);
        x.tell(1, 10, 1);
        sets(x, 1, 2, 0, 0, 2);
        x.choose(0, 0, 0, 0, 0);
        sets(x, 1, 2, 0, 0, 2);
        x.tell(1, 9, 0);
        sets(x, 1, 1, 0, 0, 1);
        x.tell(0, 9, 0);
        sets(x, 1, 0, 0, 0, 0);
    }

    private static void doubles() {
        Due.sentence("Term 5: DOUBLE by u are those that have the TIMES of one with a lesser number");
        StonesOfWeight x = new StonesOfWeight();
        for (int i = 0; i < 32; i++) {
            x.stone(20, 0, 0);
            x.tell(i, 10, 8);
        }
        sets(x, 8, 32, 31, 1, 2);
        x.tell(0, 10, 7);
        sets(x, 8, 31, 30, 1, 2);
        sets(x, 7, 1, 0, 1, 2);
        StonesOfWeight y = Due.stones(20, 30, 20, 30, 20);
        for (int i = 0; i < 5; i++) {
            y.tell(i, 10, 1);
        }
        sets(y, 1, 5, 3, 1, 3);
        y.tell(0, 9, 0);
        sets(y, 1, 4, 2, 1, 3);
        y.tell(2, 7, 3);
        sets(y, 1, 4, 2, 1, 3);
        y.tell(2, 7, 60);
        sets(y, 1, 4, 1, 61, 60);
    }

    private static void lacks() {
        Due.sentence("Term 5: it LACKS of TIMES 1, 2, 4, 8, 16, 32, up to its greatest one, those that none has");
        int[][] rows = {{1, 0}, {2, 1}, {3, 3}, {4, 3}, {5, 7}, {7, 7}, {8, 7}, {9, 15}, {15, 15}, {16, 15}, {17, 31},
            {31, 31}, {32, 31}, {33, 63}, {63, 63}, {64, 63}, {65, 63}, {3000, 63}};
        StonesOfWeight x = Due.stones(10);
        x.tell(0, 10, 1);
        for (int[] r : rows) {
            x.tell(0, 0, 10 * r[0]);
            sets(x, 1, 1, 0, r[1], r[0]);
        }
        StonesOfWeight all = Due.stones(10, 20, 40, 80, 160, 320);
        for (int i = 0; i < 6; i++) {
            all.tell(i, 10, 2);
        }
        sets(all, 2, 6, 0, 0, 32);
        for (int i = 0; i < 5; i++) {
            all.tell(i, 9, 0);
            sets(all, 2, 5, 0, 1 << i, 32);
            all.tell(i, 9, 1);
        }
        all.tell(5, 9, 0);
        sets(all, 2, 5, 0, 0, 16);
    }

    private static void setRefuses() {
        Due.sentence("Promise 22: Of a SET, 1 .. 8, .. 3: its greatest TIMES (0 without STONES). NONE: there is none such, or for another what");
        StonesOfWeight x = Due.stones(10);
        for (int set = 1; set <= 8; set++) {
            sets(x, set, 0, 0, 0, 0);
        }
        int[] wrong = {0, 9, -1, Integer.MIN_VALUE, Integer.MAX_VALUE};
        for (int set : wrong) {
            Due.is("set(" + set + ", 10, 0)", x.set(set, 10, 0), -1);
        }
        int[] units = {9, 2001, 0, Integer.MIN_VALUE, Integer.MAX_VALUE};
        for (int unit : units) {
            Due.is("set(1, " + unit + ", 0)", x.set(1, unit, 0), -1);
        }
        int[] whats = {4, -1, Integer.MIN_VALUE, Integer.MAX_VALUE};
        for (int what : whats) {
            Due.is("set(1, 10, " + what + ")", x.set(1, 10, what), -1);
        }
    }

    private static StonesOfWeight twoTowns(int weight, int other) {
        StonesOfWeight x = new StonesOfWeight();
        x.stone(weight, 0, 0);
        x.stone(other, 0, 5);
        return x;
    }

    private static void ratesToTwelve() {
        Due.sentence("Term 5: the fraction p / q, p and q 1 .. 12");
        StonesOfWeight x = twoTowns(10, 120);
        Due.is("1 / 12", x.rate(0, 5, 10, 120, 0), 112);
        Due.is("12 / 1", x.rate(5, 0, 10, 120, 0), 1201);
        StonesOfWeight y = twoTowns(10, 130);
        Due.is("1 / 13", y.rate(0, 5, 10, 130, 0), -1);
        Due.is("13 / 1", y.rate(5, 0, 10, 130, 0), -1);
        // 10 * 12 is 10 away from 130: 10000 and 76 * 130, 77 * 130.
        Due.is("1 / 13, by 76", y.rate(0, 5, 10, 130, 76), -1);
        Due.is("1 / 13, by 77", y.rate(0, 5, 10, 130, 77), 112);
        // 10 * 11 is 20 away: 20000 and 153 * 130, 154 * 130.
        Due.is("1 / 13, by 153", y.rate(0, 5, 10, 130, 153), 112);
        Due.is("1 / 13, by 154", y.rate(0, 5, 10, 130, 154), 111);
        Due.is("11 / 12", twoTowns(110, 120).rate(0, 5, 105, 125, 0), 1112);
        Due.is("12 / 11", twoTowns(120, 110).rate(0, 5, 105, 125, 0), 1211);
        Due.is("12 / 13", twoTowns(120, 130).rate(0, 5, 115, 135, 0), -1);
        Due.is("1 / 1", twoTowns(120, 120).rate(0, 5, 115, 135, 0), 101);
        Due.is("31 / 1", twoTowns(310, 10).rate(0, 5, 10, 310, 200), -1);
    }

    private static void rateByE() {
        Due.sentence("Term 5: with 1000 * |u * q - v * p| at most e * v * p (e 0 .. 200)");
        StonesOfWeight x = twoTowns(120, 100);
        Due.is("120 / 100, by 0", x.rate(0, 5, 90, 130, 0), 605);
        Due.is("120 / 100, by 199", x.rate(0, 5, 90, 130, 199) == 101, false);
        Due.is("120 / 100, by 200: 20000 and 20000", x.rate(0, 5, 90, 130, 200), 101);
        // 121 / 100: not 1 / 1, 21000 and 20000; 3 / 2, 58000 and 60000.
        Due.is("121 / 100, by 200", twoTowns(121, 100).rate(0, 5, 90, 130, 200), 302);
        // 799 / 999: not 1 / 1, 200000 and 199800; 2 / 3, 399000 and 399600.
        Due.is("799 / 999, by 200", twoTowns(799, 999).rate(0, 5, 799, 999, 200), 203);
        Due.is("800 / 1000, by 200", twoTowns(800, 1000).rate(0, 5, 800, 1000, 200), 101);
        Due.is("1990 / 2000, by 5", twoTowns(1990, 2000).rate(0, 5, 1700, 2000, 5), 101);
        Due.is("1990 / 2000, by 4", twoTowns(1990, 2000).rate(0, 5, 1700, 2000, 4), -1);
    }

    private static void rateInLeastTerms() {
        Due.sentence("Term 5: in least terms ..: that with the least p + q");
        Due.is("200 / 300", twoTowns(200, 300).rate(0, 5, 200, 300, 0), 203);
        Due.is("300 / 200", twoTowns(300, 200).rate(0, 5, 200, 300, 0), 302);
        Due.is("40 / 100", twoTowns(40, 100).rate(0, 5, 40, 100, 0), 205);
        Due.is("70 / 100", twoTowns(70, 100).rate(0, 5, 70, 100, 0), 710);
        // 2 / 3: 10000 and 49 * 200, 50 * 200; 5 / 7: 10000 and 49 * 500.
        Due.is("70 / 100, by 49", twoTowns(70, 100).rate(0, 5, 70, 100, 49), 507);
        Due.is("70 / 100, by 50", twoTowns(70, 100).rate(0, 5, 70, 100, 50), 203);
    }

    private static void rateRefuses() {
        Due.sentence("Promise 23: NONE: other numbers, they are one, one has none CHOSEN, or there is none");
        StonesOfWeight x = twoTowns(100, 110);
        Due.is("a RATE", x.rate(0, 5, 90, 120, 200), 101);
        for (int town = 0; town < 6; town++) {
            Due.is("TOWN " + town + " to itself", x.rate(town, town, 90, 120, 200), -1);
        }
        int[] towns = {-1, 6, 31, 32, Integer.MIN_VALUE, Integer.MAX_VALUE};
        for (int town : towns) {
            Due.is("TOWN " + town, x.rate(town, 5, 90, 120, 200), -1);
            Due.is("to TOWN " + town, x.rate(0, town, 90, 120, 200), -1);
        }
        int[] es = {-1, 201, Integer.MIN_VALUE, Integer.MAX_VALUE};
        for (int e : es) {
            Due.is("by " + e, x.rate(0, 5, 90, 120, e), -1);
        }
        Due.is("a TOWN without STONES", x.rate(0, 1, 90, 120, 200), -1);
        Due.is("a TOWN without STONES", x.rate(1, 0, 90, 120, 200), -1);
        x.choose(1, 31, -3000, 1900, 0);
        Due.is("one has none CHOSEN", x.rate(0, 5, 90, 120, 200), -1);
        x.choose(32, 31, -3000, 1900, 0);
        Due.is("the other has none CHOSEN", x.rate(0, 5, 90, 120, 200), -1);
    }

    private static void driftByAYear() {
        Due.sentence("Term 5: DRIFT by a year: BEST of the CHOSEN whose FROM is that year or later, less BEST of those whose TO is earlier");
        StonesOfWeight x = Due.stones(100, 110, 105);
        x.tell(0, 6, -1);
        x.tell(1, 5, 0);
        // From -1 to 0: of neither, by 0.
        x.tell(2, 5, -1);
        x.tell(2, 6, 0);
        Due.is("by 0", x.drift(0, 90, 120), 10);
        Due.is("by -1: none is earlier", x.drift(-1, 90, 120), NO_DRIFT);
        Due.is("by 1: none is as late", x.drift(1, 90, 120), NO_DRIFT);
        x.tell(1, 0, 95);
        Due.is("downwards", x.drift(0, 90, 120), -5);
        StonesOfWeight y = Due.stones(10, 310);
        y.tell(0, 6, -3000);
        y.tell(1, 5, 1900);
        Due.is("from the first year", y.drift(-2999, 10, 310), 300);
        Due.is("to the last year", y.drift(1900, 10, 310), 300);
        Due.is("one less than the first", y.drift(-3000, 10, 310), NO_DRIFT);
        Due.is("one more than the last", y.drift(1901, 10, 310), NO_DRIFT);
        y.tell(0, 0, 310);
        y.tell(1, 0, 10);
        Due.is("the least", y.drift(0, 10, 310), -300);
        Due.is("none at all", y.drift(0, 10, 10), 0);
    }

    private static void driftRefuses() {
        Due.sentence("Promise 24: -100000: other numbers, or one of both has none");
        StonesOfWeight x = Due.stones(100, 110);
        Due.is("one LAYER for all", x.drift(0, 90, 120), NO_DRIFT);
        x.tell(0, 6, -1);
        Due.is("none is later", x.drift(0, 90, 120), NO_DRIFT);
        x.tell(1, 5, 0);
        Due.is("both have one", x.drift(0, 90, 120), 10);
        int[] years = {Integer.MIN_VALUE, Integer.MAX_VALUE, -3001, 1901};
        for (int year : years) {
            Due.is("by " + year, x.drift(year, 90, 120), NO_DRIFT);
        }
        x.tell(1, 9, 0);
        Due.is("the later is OUT", x.drift(0, 90, 120), NO_DRIFT);
        x.tell(1, 9, 1);
        x.choose(63, 31, 0, 1900, 0);
        Due.is("the earlier is not CHOSEN", x.drift(0, 90, 120), NO_DRIFT);
    }

    private static void shorts(StonesOfWeight x, int unit, int due) {
        Due.is("SHORT by " + unit, x.by(0, unit, 2), due);
    }

    private static void shortOfTheNearest() {
        Due.sentence("Term 5: SHORT .. k * u, k 1 or more, nearest to the greatest of its SPAN (of two as near the greater one ..), less that; 0 if that is below 0");
        shorts(Due.stones(14), 10, 0);
        shorts(Due.stones(15), 10, 5);
        shorts(Due.stones(16), 10, 4);
        shorts(Due.stones(20), 10, 0);
        shorts(Due.stones(21), 10, 0);
        shorts(Due.stones(16), 11, 0);
        shorts(Due.stones(17), 11, 5);
        shorts(Due.stones(1), 2000, 1999);
        shorts(Due.stones(4), 10, 6);
        shorts(Due.stones(2999), 2000, 0);
        shorts(Due.stones(3000), 2000, 1000);
        StonesOfWeight x = Due.stones(95);
        Due.wear(x, "more 0 to 100;");
        // 95 .. 104: the multiple by the greatest, not that in the SPAN.
        shorts(x, 50, 0);
        shorts(x, 60, 16);
        shorts(x, 69, 34);
        shorts(x, 70, 0);
        shorts(x, 105, 1);
    }

    private static void shortByTheMark() {
        Due.sentence("Term 5: with a MARK, MARK * u");
        StonesOfWeight x = Due.stones(95);
        x.tell(0, 7, 1);
        shorts(x, 95, 0);
        shorts(x, 94, 0);
        shorts(x, 96, 1);
        shorts(x, 10, 0);
        x.tell(0, 7, 60);
        shorts(x, 10, 505);
        shorts(x, 2000, 119905);
    }

    private static void owners(StonesOfWeight x, int unit, int... due) {
        for (int what = 0; what < 3; what++) {
            Due.is("owner(9, " + unit + ", " + what + ")", x.owner(9, unit, what), due[what]);
        }
    }

    private static StonesOfWeight owned(int... weights) {
        StonesOfWeight x = Due.stones(weights);
        for (int i = 0; i < weights.length; i++) {
            x.tell(i, 8, 9);
        }
        return x;
    }

    private static void moreThanAHundredth() {
        Due.sentence("Term 5: An OWNER's CHOSEN STONES by u: how many are SHORT by more than a hundredth of u");
        owners(owned(99), 100, 1, 0, ALL);
        owners(owned(98), 100, 1, 1, 500000000);
        owners(owned(197), 199, 1, 1, 500000000);
        owners(owned(198), 200, 1, 0, ALL);
        owners(owned(197), 200, 1, 1, 500000000);
        owners(owned(199), 201, 1, 0, ALL);
        owners(owned(1980), 2000, 1, 0, ALL);
        owners(owned(1979), 2000, 1, 1, 500000000);
        owners(owned(10), 10, 1, 0, ALL);
        owners(owned(9), 10, 1, 1, 500000000);
        owners(owned(101), 100, 1, 0, ALL);
        StonesOfWeight x = owned(98, 98, 98);
        x.tell(0, 8, 1);
        x.tell(1, 9, 0);
        owners(x, 100, 1, 1, 500000000);
    }

    private static void suspicion() {
        Due.sentence("Term 5: SUSPICION: CHANCE .. of so many or more if each were SHORT by one half: (P(j) + P(j - 1)) / 2, cut");
        owners(new StonesOfWeight(), 100, 0, 0, ALL);
        owners(owned(98, 98), 100, 2, 2, 250000000);
        owners(owned(98, 100), 100, 2, 1, 750000000);
        owners(owned(100, 100), 100, 2, 0, ALL);
        StonesOfWeight x = new StonesOfWeight();
        for (int i = 0; i < 32; i++) {
            x.stone(90, 0, 0);
            x.tell(i, 8, 9);
        }
        // 1000000000 is halved thirty times and is nothing then.
        owners(x, 100, 32, 32, 0);
        x.tell(0, 0, 100);
        owners(x, 100, 32, 31, 6);
        // By 90 none is SHORT (100 is above it): all rows, less what was cut off.
        owners(x, 90, 32, 0, 999999886);
    }

    private static void ownerRefuses() {
        Due.sentence("Promise 25: Of an OWNER, 1 .. 9, .. NONE: there is none such, or for another what");
        StonesOfWeight x = owned(98);
        for (int owner = 1; owner <= 8; owner++) {
            Due.is("owner(" + owner + ", 100, 0)", x.owner(owner, 100, 0), 0);
            Due.is("owner(" + owner + ", 100, 2)", x.owner(owner, 100, 2), ALL);
        }
        int[] wrong = {0, 10, -1, Integer.MIN_VALUE, Integer.MAX_VALUE};
        for (int owner : wrong) {
            Due.is("owner(" + owner + ", 100, 0)", x.owner(owner, 100, 0), -1);
        }
        int[] units = {9, 2001, 0, Integer.MIN_VALUE, Integer.MAX_VALUE};
        for (int unit : units) {
            Due.is("owner(9, " + unit + ", 0)", x.owner(9, unit, 0), -1);
        }
        int[] whats = {3, -1, Integer.MIN_VALUE, Integer.MAX_VALUE};
        for (int what : whats) {
            Due.is("owner(9, 100, " + what + ")", x.owner(9, 100, what), -1);
        }
    }

    private static void twins() {
        Due.sentence("Term 5: TWINS are two CHOSEN STONES of one TOWN, STUFF and MARK whose WEIGHTS are at most d apart (d 0 .. 500)");
        Due.is("0 apart, by 0", Due.stones(100, 100).heap(1, 0), 0);
        Due.is("1 apart, by 0", Due.stones(100, 101).heap(1, 0), 1);
        Due.is("1 apart, by 1", Due.stones(100, 101).heap(1, 1), 0);
        Due.is("1 apart, the first heavier", Due.stones(101, 100).heap(1, 1), 0);
        Due.is("500 apart, by 500", Due.stones(100, 600).heap(1, 500), 0);
        Due.is("500 apart, by 499", Due.stones(100, 600).heap(1, 499), 1);
        Due.is("501 apart, by 500", Due.stones(100, 601).heap(1, 500), 1);
        Due.is("29999 apart", Due.stones(1, 30000).heap(1, 500), 1);
        StonesOfWeight x = Due.stones(100, 100);
        x.tell(1, 3, 50);
        x.tell(1, 2, 3);
        x.tell(1, 8, 9);
        x.tell(1, 10, 8);
        x.tell(1, 5, 1900);
        Due.is("no other FACT counts", x.heap(1, 0), 0);
        Due.wear(x, "if chips=3:more 1000;");
        Due.is("nor the SPAN", x.heap(1, 0), 0);
        int[][] others = {{4, 1}, {1, 1}, {7, 1}};
        for (int[] o : others) {
            x.tell(1, o[0], o[1]);
            Due.is("another FACT " + o[0], x.heap(1, 500), 1);
            x.tell(0, o[0], o[1]);
            Due.is("the same FACT " + o[0], x.heap(1, 500), 0);
        }
    }

    private static void heapsByTwins() {
        Due.sentence("Term 5: a HEAP: STONES of which each comes to each other by TWINS, one to the next");
        // 120 comes to 100 by 110, which has a greater number.
        StonesOfWeight x = Due.stones(100, 120, 110);
        Due.is("by a greater number", x.heap(1, 10), 0);
        Due.is("the one between", x.heap(2, 10), 0);
        x.tell(2, 9, 0);
        Due.is("no way by one that is not CHOSEN", x.heap(1, 10), 1);
        // 0, 31, 1, 30, 2 .. by their WEIGHTS.
        StonesOfWeight y = new StonesOfWeight();
        for (int i = 0; i < 32; i++) {
            y.stone(100 + 10 * (i < 16 ? 2 * i : 2 * (31 - i) + 1), 0, 0);
        }
        for (int i = 0; i < 32; i++) {
            Due.is("a chain of 32, from " + i, y.heap(i, 10), 0);
            Due.is("32 alone, " + i, y.heap(i, 9), i);
        }
        y.tell(15, 9, 0);
        y.tell(31, 9, 0);
        Due.is("0 alone", y.heap(0, 10), 0);
        Due.is("16 alone, without 15", y.heap(16, 10), 16);
        Due.is("the rest", y.heap(30, 10), 1);
    }

    private static void heapRefuses() {
        Due.sentence("Promise 26: The least STONE of the HEAP of a CHOSEN STONE, by d. NONE: there is none such, or another d");
        StonesOfWeight x = Due.stones(100, 100);
        Due.is("both", x.heap(1, 0), 0);
        int[] ds = {-1, 501, Integer.MIN_VALUE, Integer.MAX_VALUE};
        for (int d : ds) {
            Due.is("heap(1, " + d + ")", x.heap(1, d), -1);
        }
        int[] numbers = {-1, 2, 32, Integer.MIN_VALUE, Integer.MAX_VALUE};
        for (int stone : numbers) {
            Due.is("heap(" + stone + ", 0)", x.heap(stone, 0), -1);
        }
        x.tell(0, 9, 0);
        Due.is("one that is OUT", x.heap(0, 0), -1);
        Due.is("the other is alone", x.heap(1, 0), 1);
        x.choose(0, 0, 0, 0, 0);
        Due.is("one that is not CHOSEN", x.heap(1, 0), -1);
    }

    private static void worthOfBothEnds() {
        Due.sentence("Term 5: WORTH ..: how far BEST from a to b, if its SPAN were its least number alone, is from BEST if it were its greatest one alone");
        StonesOfWeight x = Due.stones(155);
        Due.is("a point", x.worth(0, 10, 310), 0);
        Due.wear(x, "more 0 to 1000;");
        Due.is("155 or 310, to the 301st UNIT", x.worth(0, 10, 310), 155);
        Due.is("one UNIT", x.worth(0, 310, 310), 0);
        Due.is("the only one", x.anew(10, 310), 0);
        StonesOfWeight y = Due.stones(1700);
        Due.wear(y, "more 0 to 177;");
        Due.is("1700 or 2000", y.worth(0, 1700, 2000), 300);
        Due.is("1700 or 2000, and not 2000", y.worth(0, 1700, 1999), 299);
        StonesOfWeight down = Due.stones(200);
        // 200 by 40 (50 is out of reach), 300 by 30: how far, not which way.
        Due.wear(down, "more 0 to 500;");
        Due.is("40 or 30", down.worth(0, 30, 49), 10);
        StonesOfWeight mark = Due.stones(100);
        Due.wear(mark, "more 0 to 100;");
        mark.tell(0, 7, 5);
        Due.is("by its MARK: 20 or 22", mark.worth(0, 15, 30), 2);
    }

    /** A STONE of TOWN 1 that is wide, one of TOWN 2, and WORTH of the first. */
    private static void worth(int[] weights, String wear, int a, int b, int due) {
        StonesOfWeight x = new StonesOfWeight();
        x.stone(weights[0], 0, 1);
        x.stone(weights[1], 0, 2);
        Due.wear(x, wear);
        Due.is("WORTH beside " + weights[1] + " from " + a + " to " + b, x.worth(0, a, b), due);
    }

    /** Each of these is another if the SPAN as it is were counted, or the two numbers were counted for more or less. */
    private static void worthBesideOthers() {
        Due.sentence("Term 5: if its SPAN were its least number alone (all others as they are)");
        worth(new int[] {28, 97}, "if town=1:more 0 to 360;", 31, 37, 1);
        worth(new int[] {28, 59}, "if town=1:more 0 to 430;if town=2:more 0 to 390;", 20, 22, 2);
        worth(new int[] {78, 27}, "if town=1:more 0 to 65;", 25, 28, 2);
        worth(new int[] {42, 62}, "if town=1:more 0 to 286;", 15, 17, 1);
        worth(new int[] {81, 30}, "if town=1:more 0 to 284;if town=2:more 0 to 200;", 29, 36, 6);
    }

    private static void worthRefuses() {
        Due.sentence("Promise 28: WORTH of a CHOSEN STONE .. NONE: there is none such, or other numbers");
        StonesOfWeight x = Due.stones(100, 100);
        Due.is("a WORTH", x.worth(1, 90, 120), 0);
        int[] numbers = {-1, 2, 32, Integer.MIN_VALUE, Integer.MAX_VALUE};
        for (int stone : numbers) {
            Due.is("worth(" + stone + ", 90, 120)", x.worth(stone, 90, 120), -1);
        }
        int[][] ranges = {{9, 20}, {1990, 2001}, {21, 20}, {10, 311}, {Integer.MIN_VALUE, Integer.MAX_VALUE}};
        for (int[] r : ranges) {
            Due.is("worth(1, " + r[0] + ", " + r[1] + ")", x.worth(1, r[0], r[1]), -1);
        }
        x.tell(0, 9, 0);
        Due.is("one that is OUT", x.worth(0, 90, 120), -1);
        Due.is("the other", x.worth(1, 90, 120), 0);
        x.choose(0, 0, 0, 0, 0);
        Due.is("one that is not CHOSEN", x.worth(1, 90, 120), -1);
    }

    private static void anewTheLeast() {
        Due.sentence("Term 5: ANEW: the CHOSEN STONE with the greatest WORTH, of several the least (Promise 27: NONE: as best())");
        StonesOfWeight x = new StonesOfWeight();
        Due.is("no STONES", x.anew(90, 120), -1);
        x.stone(100, 0, 0);
        x.stone(100, 0, 0);
        Due.is("no WORTH at all: the least", x.anew(90, 120), 0);
        x.tell(0, 9, 0);
        Due.is("the least that is CHOSEN", x.anew(90, 120), 1);
        StonesOfWeight y = new StonesOfWeight();
        y.stone(30000, 0, 0);
        y.tell(0, 7, 1);
        y.stone(100, 0, 1);
        y.stone(100, 0, 1);
        Due.wear(y, "if town=1:more 0 to 100;");
        Due.is("WORTH of 0", y.worth(0, 90, 120), 0);
        Due.is("WORTH of 1", y.worth(1, 90, 120), 10);
        Due.is("WORTH of 2", y.worth(2, 90, 120), 10);
        Due.is("of several the least", y.anew(90, 120), 1);
        y.tell(1, 9, 0);
        Due.is("the last", y.anew(90, 120), 2);
        int[][] ranges = {{9, 20}, {1990, 2001}, {21, 20}, {10, 311}, {Integer.MIN_VALUE, Integer.MAX_VALUE}};
        for (int[] r : ranges) {
            Due.is("anew(" + r[0] + ", " + r[1] + ")", y.anew(r[0], r[1]), -1);
        }
        y.choose(0, 0, 0, 0, 0);
        Due.is("none is CHOSEN", y.anew(90, 120), -1);
    }
}
