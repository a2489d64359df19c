/** Promises 22 to 28: set, rate, drift, owner, heap, anew, worth. */
public final class FindTest {
    private static final int[][] WRONG = {{9, 20}, {20, 2001}, {21, 20}, {10, 311}, {0, 0},
        {Integer.MIN_VALUE, Integer.MAX_VALUE}};

    public static void main(String[] args) {
        set();
        setLacks();
        rate();
        drift();
        owner();
        heap();
        heapOfChains();
        worth();
        anew();
        Due.finish("FindTest");
    }

    private static void sets(StonesOfWeight x, int set, int unit, int... due) {
        for (int what = 0; what < 4; what++) {
            Due.is("set(" + set + ", " + unit + ", " + what + ")", x.set(set, unit, what), due[what]);
        }
    }

    private static void set() {
        StonesOfWeight x = Due.stones(10, 20, 20, 80, 20, 160);
        sets(x, 3, 10, 0, 0, 0, 0);
        for (int s = 0; s < 5; s++) {
            x.tell(s, 10, 3);
        }
        x.tell(5, 10, 8);
        sets(x, 3, 10, 5, 2, 4, 8);
        sets(x, 8, 10, 1, 0, 15, 16);
        sets(x, 1, 10, 0, 0, 0, 0);
        x.tell(4, 9, 0);
        sets(x, 3, 10, 4, 1, 4, 8);
        x.choose(0, 0, 0, 0, 0);
        sets(x, 3, 10, 4, 1, 4, 8);
        x.tell(3, 7, 4);
        sets(x, 3, 10, 4, 1, 0, 4);
        Due.is("SET 0 is none", x.set(0, 10, 0), -1);
        Due.is("no such SET", x.set(9, 10, 0), -1);
        Due.is("no such SET", x.set(-1, 10, 0), -1);
        Due.is("no such UNIT", x.set(3, 9, 0), -1);
        Due.is("no such UNIT", x.set(3, 2001, 0), -1);
        Due.is("another what", x.set(3, 10, 4), -1);
        Due.is("another what", x.set(3, 10, -1), -1);
    }

    private static void setLacks() {
        StonesOfWeight x = Due.stones(5000, 30);
        x.tell(0, 10, 1);
        x.tell(1, 10, 2);
        sets(x, 1, 10, 1, 0, 63, 500);
        sets(x, 2, 10, 1, 0, 3, 3);
        x.tell(0, 7, 32);
        sets(x, 1, 10, 1, 0, 31, 32);
        x.tell(0, 7, 31);
        sets(x, 1, 10, 1, 0, 31, 31);
        x.tell(0, 7, 1);
        sets(x, 1, 10, 1, 0, 0, 1);
    }

    private static void rate() {
        StonesOfWeight x = new StonesOfWeight();
        x.stone(100, 0, 0);
        x.stone(150, 0, 1);
        x.stone(151, 0, 2);
        Due.is("100 to 150", x.rate(0, 1, 90, 160, 0), 203);
        Due.is("150 to 100", x.rate(1, 0, 90, 160, 0), 302);
        Due.is("100 to 151", x.rate(0, 2, 90, 160, 0), -1);
        Due.is("100 to 151", x.rate(0, 2, 90, 160, 6), -1);
        Due.is("100 to 151", x.rate(0, 2, 90, 160, 7), 203);
        Due.is("150 to 151", x.rate(1, 2, 90, 160, 7), 101);
        Due.is("150 to 151", x.rate(1, 2, 90, 160, 6), -1);
        Due.is("the least p + q", x.rate(0, 1, 90, 160, 200), 203);
        Due.is("alike UNITS", x.rate(0, 1, 100, 100, 0), 101);
        Due.is("of itself", x.rate(0, 0, 90, 160, 0), -1);
        Due.is("a TOWN without STONES", x.rate(0, 3, 90, 160, 200), -1);
        Due.is("a TOWN without STONES", x.rate(3, 0, 90, 160, 200), -1);
        Due.is("no such TOWN", x.rate(-1, 0, 90, 160, 0), -1);
        Due.is("no such TOWN", x.rate(0, 6, 90, 160, 0), -1);
        Due.is("another e", x.rate(0, 1, 90, 160, -1), -1);
        Due.is("another e", x.rate(0, 1, 90, 160, 201), -1);
        for (int[] w : WRONG) {
            Due.is("rate of other numbers", x.rate(0, 1, w[0], w[1], 0), -1);
        }
        x.choose(1, 31, 0, 0, 0);
        Due.is("one has none CHOSEN", x.rate(0, 1, 90, 160, 0), -1);
        x.choose(63, 31, 0, 0, 0);
        x.tell(1, 0, 101);
        Due.is("101 to 100, just within e", x.rate(1, 0, 90, 160, 10), 101);
        Due.is("101 to 100, just beyond e", x.rate(1, 0, 90, 160, 9), -1);
        Due.is("100 to 101, within e of 101", x.rate(0, 1, 90, 160, 10), 101);
        Due.is("100 to 101, beyond e of 101", x.rate(0, 1, 90, 160, 9), -1);
        StonesOfWeight y = new StonesOfWeight();
        y.stone(120, 0, 4);
        y.stone(110, 0, 5);
        Due.is("12 to 11", y.rate(4, 5, 100, 130, 0), 1211);
        Due.is("11 to 12", y.rate(5, 4, 100, 130, 0), 1112);
        y.tell(0, 0, 130);
        y.tell(1, 0, 110);
        Due.is("13 to 11 is beyond 12", y.rate(4, 5, 100, 130, 0), -1);
        y.tell(0, 0, 140);
        y.tell(1, 0, 100);
        Due.is("7 to 5", y.rate(4, 5, 91, 141, 0), 705);
        Due.is("7 to 5, laxly 4 to 3", y.rate(4, 5, 91, 141, 60), 403);
        Due.is("7 to 5, laxly 4 to 3", y.rate(4, 5, 91, 141, 66), 403);
        Due.is("7 to 5, more laxly 3 to 2", y.rate(4, 5, 91, 141, 67), 302);
    }

    private static void drift() {
        StonesOfWeight x = Due.stones(100, 110, 5000);
        x.tell(0, 6, -500);
        x.tell(1, 5, -400);
        Due.is("by -400", x.drift(-400, 90, 120), 10);
        Due.is("by -499", x.drift(-499, 90, 120), 10);
        Due.is("by -500", x.drift(-500, 90, 120), -100000);
        Due.is("by -399", x.drift(-399, 90, 120), -100000);
        Due.is("by the first year", x.drift(-3000, 90, 120), -100000);
        Due.is("by no year at all", x.drift(Integer.MAX_VALUE, 90, 120), -100000);
        Due.is("by no year at all", x.drift(Integer.MIN_VALUE, 90, 120), -100000);
        for (int[] w : WRONG) {
            Due.is("drift of other numbers", x.drift(-400, w[0], w[1]), -100000);
        }
        x.tell(0, 0, 118);
        Due.is("downwards", x.drift(-400, 90, 120), -8);
        x.choose(63, 31, -3000, -500, 0);
        Due.is("one has none CHOSEN", x.drift(-400, 90, 120), -100000);
    }

    private static void owners(StonesOfWeight x, int owner, int unit, int... due) {
        for (int what = 0; what < 3; what++) {
            Due.is("owner(" + owner + ", " + unit + ", " + what + ")", x.owner(owner, unit, what), due[what]);
        }
    }

    private static void owner() {
        StonesOfWeight x = Due.stones(99, 98, 100, 150, 90);
        for (int s = 0; s < 4; s++) {
            x.tell(s, 8, 2);
        }
        owners(x, 2, 100, 4, 2, 687500000);
        owners(x, 1, 100, 0, 0, 1000000000);
        x.tell(4, 8, 9);
        owners(x, 9, 100, 1, 1, 500000000);
        owners(x, 9, 90, 1, 0, 1000000000);
        x.tell(3, 9, 0);
        owners(x, 2, 100, 3, 1, 875000000);
        x.choose(63, 31, -3000, 1900, 1);
        owners(x, 2, 100, 0, 0, 1000000000);
        x.choose(63, 31, -3000, 1900, 0);
        x.tell(2, 7, 2);
        owners(x, 2, 100, 3, 2, 500000000);
        Due.is("nobody's", x.owner(0, 100, 0), -1);
        Due.is("no such OWNER", x.owner(10, 100, 0), -1);
        Due.is("no such UNIT", x.owner(2, 9, 0), -1);
        Due.is("no such UNIT", x.owner(2, 2001, 0), -1);
        Due.is("another what", x.owner(2, 100, 3), -1);
        Due.is("another what", x.owner(2, 100, -1), -1);
        StonesOfWeight many = new StonesOfWeight();
        for (int s = 0; s < 12; s++) {
            many.stone(95, 0, 0);
            many.tell(s, 8, 4);
        }
        // 1000000000 / 4096 is 244140.625; halved and cut twelve times: 244140.
        owners(many, 4, 100, 12, 12, 244140);
        StonesOfWeight all = new StonesOfWeight();
        for (int s = 0; s < 32; s++) {
            all.stone(s == 0 ? 100 : 95, 0, 0);
            all.tell(s, 8, 4);
        }
        // 33 / 2 ^ 32 would be 7 billionths; cut again and again, it is 6.
        owners(all, 4, 100, 32, 31, 6);
    }

    private static void heap() {
        StonesOfWeight x = Due.stones(100, 110, 120, 135);
        Due.is("one to the next", x.heap(2, 10), 0);
        Due.is("itself", x.heap(0, 10), 0);
        Due.is("alone", x.heap(3, 10), 3);
        Due.is("not quite", x.heap(3, 14), 3);
        Due.is("just so", x.heap(3, 15), 0);
        Due.is("apart", x.heap(1, 9), 1);
        Due.is("by 0", x.heap(1, 0), 1);
        Due.is("by 500", x.heap(3, 500), 0);
        Due.is("another d", x.heap(1, -1), -1);
        Due.is("another d", x.heap(1, 501), -1);
        Due.is("no such STONE", x.heap(4, 10), -1);
        Due.is("no such STONE", x.heap(-1, 10), -1);
        x.tell(1, 7, 3);
        Due.is("another MARK", x.heap(2, 10), 2);
        x.tell(0, 7, 3);
        Due.is("the same MARK", x.heap(1, 10), 0);
        x.tell(0, 4, 2);
        Due.is("another TOWN", x.heap(1, 10), 1);
        x.tell(0, 4, 0);
        x.tell(0, 1, 2);
        Due.is("another STUFF", x.heap(1, 10), 1);
        x.tell(0, 1, 0);
        x.tell(1, 9, 0);
        Due.is("OUT", x.heap(1, 10), -1);
        x.tell(2, 7, 3);
        Due.is("no way by one that is OUT", x.heap(2, 10), 2);
    }

    private static void heapOfChains() {
        StonesOfWeight x = new StonesOfWeight();
        for (int s = 0; s < 32; s++) {
            x.stone(1000 + (s % 2 == 0 ? 10 * (31 - s) : 10 * s + 5000), 0, 0);
        }
        for (int s = 0; s < 32; s++) {
            Due.is("a chain, backwards", x.heap(s, 20), s % 2);
            Due.is("no chain", x.heap(s, 19), s);
        }
    }

    private static void worth() {
        StonesOfWeight x = new StonesOfWeight();
        x.stone(100, 0, 1);
        Due.wear(x, "if town=1:more 0 to 100;");
        Due.is("100 or 110", x.worth(0, 90, 120), 10);
        Due.is("one UNIT", x.worth(0, 90, 90), 0);
        x.stone(100, 0, 0);
        // 100 by both if it is 100; if it is 110, 2 - 40 / 100, 2 - 40 / 101, 2 - 40 / 102: the greatest.
        Due.is("beside another", x.worth(0, 98, 102), 2);
        Due.is("a point", x.worth(1, 90, 120), 0);
        Due.is("no such STONE", x.worth(2, 90, 120), -1);
        Due.is("no such STONE", x.worth(-1, 90, 120), -1);
        for (int[] w : WRONG) {
            Due.is("worth of other numbers", x.worth(0, w[0], w[1]), -1);
        }
        x.tell(0, 9, 0);
        Due.is("not CHOSEN", x.worth(0, 90, 120), -1);
        worthBesideHeavier();
    }

    /** A mark far off holds every UNIT alike, so the greater is best of those. */
    private static void worthBesideHeavier() {
        StonesOfWeight x = Due.stones(200);
        Due.wear(x, "more 0 to 500;");
        // 200 by 40, 50 (alike, 50), or 300 by 30, 50 and, out of reach, 60: 50 both times.
        Due.is("alike", x.worth(0, 30, 55), 0);
        // Not 50: 40 or 30.
        Due.is("40 or 30", x.worth(0, 30, 49), 10);
        x.stone(120, 0, 1);
        Due.wear(x, "if town=0:more 0 to 500;");
        // 200 and 120 by 40; 300 by 40 is off by 20, by 30 not at all.
        Due.is("40 or 30, with 120", x.worth(0, 30, 45), 10);
        StonesOfWeight far = Due.stones(20000);
        far.tell(0, 7, 1);
        Due.wear(far, "more 0 to 500;");
        Due.is("far from its MARK by both", far.worth(0, 30, 45), 0);
    }

    private static void anew() {
        StonesOfWeight x = new StonesOfWeight();
        x.stone(100, 0, 0);
        Due.is("no WORTH at all: the least", x.anew(90, 120), 0);
        x.stone(100, 0, 1);
        Due.wear(x, "if town=1:more 0 to 100;");
        x.tell(0, 9, 0);
        x.stone(1000, 0, 0);
        x.tell(2, 9, 0);
        Due.is("the only one", x.anew(90, 120), 1);
        x.tell(0, 9, 1);
        x.tell(2, 9, 1);
        Due.is("1000 by 100 tips it: no WORTH", x.anew(98, 102), 0);
        x.tell(2, 9, 0);
        Due.is("the greatest WORTH", x.anew(98, 102), 1);
        StonesOfWeight y = Due.stones(30000);
        // Off by the whole UNIT, whatever it is, so it tips nothing.
        y.tell(0, 7, 1);
        y.stone(100, 0, 1);
        y.stone(100, 0, 1);
        Due.wear(y, "if town=1:more 0 to 100;");
        Due.is("the first", y.worth(1, 90, 120), 10);
        Due.is("the second alike", y.worth(2, 90, 120), 10);
        Due.is("of several the least", y.anew(90, 120), 1);
        for (int[] w : WRONG) {
            Due.is("anew of other numbers", x.anew(w[0], w[1]), -1);
        }
        x.choose(0, 31, 0, 0, 0);
        Due.is("none is CHOSEN", x.anew(90, 120), -1);
        Due.is("no STONES", new StonesOfWeight().anew(90, 120), -1);
    }
}
