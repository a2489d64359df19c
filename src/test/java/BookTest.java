/** Promises 1 to 7: a new object, stone, tell, day, view, fact, entry. */
public final class BookTest {
    private static final int NO = -100000;
    private static final int[] LEAST = {1, 0, 0, 0, 0, -3000, -3000, 0, 0, 0, 0};
    private static final int[] MOST = {30000, 4, 3, 2000, 5, 1900, 1900, 60, 9, 1, 8};

    public static void main(String[] args) {
        newObject();
        stone();
        tellEdges();
        tellTogether();
        tellUpTo400();
        listUpTo400();
        day();
        view();
        viewOfToday();
        factByView();
        entry();
        Due.finish("BookTest");
    }

    private static void newObject() {
        StonesOfWeight x = new StonesOfWeight();
        int[] counts = {0, 0, 0, 0, -1, 0, 0};
        for (int what = 0; what < counts.length; what++) {
            Due.is("count(" + what + ") of a new object", x.count(what), counts[what]);
        }
        Due.is("fault(0) of a new object", x.fault(0), 0);
        Due.is("fault(1) of a new object", x.fault(1), -1);
        Due.is("end(1) of a new object", x.end(1), -1);
        Due.is("fact(0, 0) of a new object", x.fact(0, 0), NO);
        Due.is("entry(0, 0) of a new object", x.entry(0, 0), NO);
        for (int k = 0; k < 3; k++) {
            Due.is("again(" + k + ") of a new object", x.again(k), false);
        }
        x.stone(100, 4, 5);
        x.tell(0, 7, 60);
        Due.is("all are CHOSEN at first", x.span(0, 2), 1);
        Due.is("no WEAR at first", x.span(0, 0) == 100 && x.span(0, 1) == 100, true);
        Due.is("no PROOF at first", x.verdict(50, 40, 60), 2);
    }

    private static void stone() {
        StonesOfWeight x = new StonesOfWeight();
        int[][] wrong = {{0, 0, 0}, {30001, 0, 0}, {-5, 0, 0}, {1, -1, 0}, {1, 5, 0}, {1, 0, -1}, {1, 0, 6},
            {Integer.MIN_VALUE, 0, 0}, {Integer.MAX_VALUE, 0, 0}};
        for (int[] w : wrong) {
            Due.is("stone of other numbers", x.stone(w[0], w[1], w[2]), -1);
        }
        Due.is("no ENTRY of those", x.count(2), 0);
        Due.is("the first", x.stone(1, 0, 0), 0);
        Due.is("the second", x.stone(30000, 4, 5), 1);
        int[] facts = {30000, 4, 0, 0, 5, -3000, 1900, 0, 0, 1, 0};
        for (int f = 0; f < facts.length; f++) {
            Due.is("FACT " + f + " of a new STONE", x.fact(1, f), facts[f]);
        }
        for (int i = 2; i < 32; i++) {
            Due.is("STONE " + i, x.stone(10, 1, 1), i);
        }
        Due.is("a 33rd STONE", x.stone(10, 1, 1), -1);
        Due.is("ENTRIES of 32 STONES", x.count(2), 32);
    }

    private static void tellEdges() {
        for (int f = 0; f <= 10; f++) {
            StonesOfWeight x = Due.stones(30000);
            Due.is("below the least of FACT " + f, x.tell(0, f, LEAST[f] - 1), false);
            Due.is("above the most of FACT " + f, x.tell(0, f, MOST[f] + 1), false);
            Due.is("no ENTRY of those", x.count(2), 1);
            Due.is("the least of FACT " + f, x.tell(0, f, LEAST[f]), true);
            Due.is("the least of FACT " + f + " is told", x.fact(0, f), LEAST[f]);
            Due.is("the most of FACT " + f, x.tell(0, f, MOST[f]), true);
            Due.is("the most of FACT " + f + " is told", x.fact(0, f), MOST[f]);
            Due.is("the same once more", x.tell(0, f, MOST[f]), true);
            Due.is("three ENTRIES", x.count(2), 4);
        }
        StonesOfWeight x = Due.stones(100);
        Due.is("no such STONE", x.tell(1, 1, 1), false);
        Due.is("no such STONE", x.tell(-1, 1, 1), false);
        Due.is("no such FACT", x.tell(0, 11, 1), false);
        Due.is("no such FACT", x.tell(0, -1, 1), false);
    }

    private static void tellTogether() {
        StonesOfWeight x = Due.stones(100);
        Due.is("LEAD as the WEIGHT", x.tell(0, 3, 100), false);
        Due.is("LEAD below the WEIGHT", x.tell(0, 3, 99), true);
        Due.is("WEIGHT as the LEAD", x.tell(0, 0, 99), false);
        Due.is("WEIGHT above the LEAD", x.tell(0, 0, 100), true);
        Due.is("TO", x.tell(0, 6, 500), true);
        Due.is("FROM above TO", x.tell(0, 5, 501), false);
        Due.is("FROM as TO", x.tell(0, 5, 500), true);
        Due.is("TO below FROM", x.tell(0, 6, 499), false);
        Due.is("FROM is kept", x.fact(0, 5), 500);
        x.day(4);
        x.tell(0, 3, 0);
        x.view(0);
        Due.is("by FACTS NOW, not of THE VIEW", x.tell(0, 0, 5), true);
        Due.is("THE VIEW has the old one", x.fact(0, 0), 100);
        x.stone(7, 0, 0);
        Due.is("a STONE that THE VIEW has not", x.tell(1, 2, 3), true);
        Due.is("nor has it the FACT", x.fact(1, 2), NO);
    }

    private static void tellUpTo400() {
        StonesOfWeight x = Due.stones(100);
        for (int i = 1; i < 400; i++) {
            Due.is("ENTRY " + i, x.tell(0, 0, 100 + i), true);
        }
        Due.is("ENTRY 400", x.tell(0, 0, 5), false);
        Due.is("a STONE as ENTRY 400", x.stone(5, 0, 0), -1);
        Due.is("ENTRIES", x.count(2), 400);
        Due.is("the last one", x.entry(399, 3), 499);
        Due.is("none behind it", x.entry(400, 3), NO);
        Due.is("WEIGHT by the last one", x.fact(0, 0), 499);
    }

    private static void listUpTo400() {
        StonesOfWeight x = Due.stones(100);
        for (int i = 1; i < 399; i++) {
            x.tell(0, 2, i % 4);
        }
        Due.is("a STONE as the 400th ENTRY", x.stone(50, 0, 0), 1);
        Due.is("no further", x.stone(50, 0, 0), -1);
        Due.is("ENTRIES", x.count(2), 400);
    }

    private static void day() {
        StonesOfWeight x = new StonesOfWeight();
        Due.is("below 0", x.day(-1), false);
        Due.is("the same", x.day(0), true);
        Due.is("later", x.day(17), true);
        Due.is("earlier", x.day(16), false);
        Due.is("the DAY", x.count(3), 17);
        Due.is("above 9999", x.day(10000), false);
        Due.is("far above", x.day(Integer.MAX_VALUE), false);
        Due.is("9999", x.day(9999), true);
        Due.is("the DAY", x.count(3), 9999);
    }

    private static void view() {
        StonesOfWeight x = new StonesOfWeight();
        x.day(10);
        Due.is("later than now", x.view(11), false);
        Due.is("below NONE", x.view(-2), false);
        Due.is("NOW still", x.count(4), -1);
        Due.is("today", x.view(10), true);
        Due.is("the VIEW", x.count(4), 10);
        Due.is("the first DAY", x.view(0), true);
        Due.is("the VIEW", x.count(4), 0);
        Due.is("a wrong one", x.view(Integer.MIN_VALUE), false);
        Due.is("the VIEW", x.count(4), 0);
        Due.is("NOW", x.view(-1), true);
        Due.is("the VIEW", x.count(4), -1);
    }

    private static void viewOfToday() {
        StonesOfWeight x = new StonesOfWeight();
        x.day(3);
        x.stone(100, 1, 2);
        x.view(3);
        x.tell(0, 0, 200);
        Due.is("what is told on the VIEW's DAY, later", x.fact(0, 0), 200);
        x.stone(300, 0, 0);
        Due.is("what is listed on it, later", x.count(0), 2);
        x.day(4);
        x.tell(0, 0, 400);
        x.stone(500, 0, 0);
        Due.is("the end of the VIEW's DAY", x.fact(0, 0), 200);
        Due.is("a STONE listed later is none", x.count(0), 2);
        Due.is("a STONE listed later is none", x.fact(2, 0), NO);
        Due.is("a STONE listed later is none", x.span(2, 0), -1);
        Due.is("a STONE listed later is none", x.by(2, 10, 0), -1);
        Due.is("a STONE listed later is none", x.count(1), 2);
        x.view(-1);
        Due.is("NOW", x.fact(0, 0), 400);
        Due.is("NOW", x.fact(2, 0), 500);
        x.view(2);
        Due.is("ahead of all", x.count(0), 0);
        Due.is("ahead of all", x.best(10, 20), -1);
    }

    private static void factByView() {
        StonesOfWeight x = new StonesOfWeight();
        x.stone(100, 1, 2);
        x.day(5);
        x.tell(0, 1, 3);
        x.tell(0, 4, 5);
        x.tell(0, 9, 0);
        x.view(4);
        int[] listed = {100, 1, 0, 0, 2, -3000, 1900, 0, 0, 1, 0};
        for (int f = 0; f < listed.length; f++) {
            Due.is("FACT " + f + " as it was listed", x.fact(0, f), listed[f]);
        }
        Due.is("CHOSEN then", x.count(1), 1);
        Due.is("its TOWN then", x.count(12), 1);
        Due.is("ENTRIES are all", x.count(2), 4);
        x.view(5);
        Due.is("STUFF", x.fact(0, 1), 3);
        Due.is("TOWN", x.fact(0, 4), 5);
        Due.is("OUT", x.fact(0, 9), 0);
        Due.is("none is CHOSEN", x.count(1), 0);
        Due.is("no such FACT", x.fact(0, 11), NO);
        Due.is("no such FACT", x.fact(0, -1), NO);
        Due.is("no such STONE", x.fact(1, 0), NO);
        Due.is("no such STONE", x.fact(-1, 0), NO);
        Due.is("no such STONE", x.fact(Integer.MAX_VALUE, 0), NO);
        Due.is("no such STONE", x.fact(0, Integer.MIN_VALUE), NO);
    }

    private static void entry() {
        StonesOfWeight x = new StonesOfWeight();
        x.stone(70, 0, 0);
        x.day(8);
        x.stone(90, 3, 1);
        x.tell(0, 5, -800);
        x.day(9);
        x.view(0);
        x.tell(1, 0, 91);
        int[][] due = {{0, 0, -1, 70}, {8, 1, -1, 90}, {8, 0, 5, -800}, {9, 1, 0, 91}};
        for (int k = 0; k < due.length; k++) {
            for (int what = 0; what < 4; what++) {
                Due.is("entry(" + k + ", " + what + ")", x.entry(k, what), due[k][what]);
            }
            Due.is("another what", x.entry(k, 4), NO);
            Due.is("another what", x.entry(k, -1), NO);
        }
        Due.is("no such ENTRY", x.entry(4, 0), NO);
        Due.is("no such ENTRY", x.entry(-1, 0), NO);
    }
}
