/** Term 1 and promises 1 to 7: each sentence that names a boundary, with a test of its own. */
public final class EdgeBookTest {
    private static final int NO = -100000;
    private static final int[] LEAST = {1, 0, 0, 0, 0, -3000, -3000, 0, 0, 0, 0};
    private static final int[] MOST = {30000, 4, 3, 2000, 5, 1900, 1900, 60, 9, 1, 8};
    private static final int[] LISTED = {100, 1, 0, 0, 2, -3000, 1900, 0, 0, 1, 0};

    public static void main(String[] args) {
        atMost32Stones();
        rangesOfFacts();
        leadIsLessThanWeight();
        fromIsNotAboveTo();
        noneByZero();
        otherFactsOfAListing();
        daysTo9999();
        neverGoesBack();
        atMost400Entries();
        refusedCallsAreNoEntries();
        entriesOfTheDay();
        viewIsNowAtFirst();
        endOfThatDay();
        listedLater();
        judgedByFactsNow();
        newObject();
        numberOfAStone();
        tellRefuses();
        dayRefuses();
        viewRefuses();
        factByTheView();
        entryTells();
        Due.finish("EdgeBookTest");
    }

    private static void atMost32Stones() {
        Due.sentence("Term 1: STONES, at most 32, from 0 on");
        StonesOfWeight x = new StonesOfWeight();
        for (int i = 0; i < 32; i++) {
            Due.is("STONE " + i, x.stone(1 + i, i % 5, i % 6), i);
        }
        Due.is("a 33rd", x.stone(1, 0, 0), -1);
        Due.is("32 STONES", x.count(0), 32);
        Due.is("32 ENTRIES", x.count(2), 32);
        Due.is("the last one has its FACTS", x.fact(31, 0), 32);
        Due.is("there is no 33rd", x.fact(32, 0), NO);
        Due.is("the last one can be told of", x.tell(31, 10, 8), true);
        x.tell(0, 9, 0);
        Due.is("one that is OUT is a STONE still", x.stone(1, 0, 0), -1);
    }

    private static void rangesOfFacts() {
        Due.sentence("Term 1: FACTS: 0 WEIGHT, 1 .. 30000; .. 10 SET, 0 .. 8");
        for (int f = 0; f <= 10; f++) {
            StonesOfWeight x = Due.stones(30000);
            int[] wrong = {LEAST[f] - 1, MOST[f] + 1, Integer.MIN_VALUE, Integer.MAX_VALUE};
            for (int value : wrong) {
                Due.is("tell(0, " + f + ", " + value + ")", x.tell(0, f, value), false);
            }
            Due.is("the least of FACT " + f, x.tell(0, f, LEAST[f]), true);
            Due.is("it is told", x.fact(0, f), LEAST[f]);
            Due.is("the most of FACT " + f, x.tell(0, f, MOST[f]), true);
            Due.is("it is told", x.fact(0, f), MOST[f]);
        }
    }

    private static void leadIsLessThanWeight() {
        Due.sentence("Term 1: LEAD, 0 .. 2000 (a filling, less than the WEIGHT)");
        StonesOfWeight x = Due.stones(1, 2000, 2001);
        Due.is("1 of 1", x.tell(0, 3, 1), false);
        Due.is("0 of 1", x.tell(0, 3, 0), true);
        Due.is("2000 of 2000", x.tell(1, 3, 2000), false);
        Due.is("1999 of 2000", x.tell(1, 3, 1999), true);
        Due.is("2000 of 2001", x.tell(2, 3, 2000), true);
        Due.is("2001 is no LEAD", x.tell(2, 3, 2001), false);
        Due.is("WEIGHT 2000 with LEAD 2000", x.tell(2, 0, 2000), false);
        Due.is("WEIGHT 2001 with LEAD 2000", x.tell(2, 0, 2001), true);
        Due.is("WEIGHT 1999 with LEAD 1999", x.tell(1, 0, 1999), false);
        Due.is("the LEAD is what it was", x.fact(1, 3), 1999);
        Due.is("the WEIGHT is what it was", x.fact(1, 0), 2000);
    }

    private static void fromIsNotAboveTo() {
        Due.sentence("Term 1: years -3000 .. 1900 of the LAYER, FROM not above TO");
        StonesOfWeight x = Due.stones(100, 100);
        Due.is("FROM 1900, as TO", x.tell(0, 5, 1900), true);
        Due.is("TO 1899, below FROM", x.tell(0, 6, 1899), false);
        Due.is("TO is what it was", x.fact(0, 6), 1900);
        Due.is("TO -3000, as FROM", x.tell(1, 6, -3000), true);
        Due.is("FROM -2999, above TO", x.tell(1, 5, -2999), false);
        Due.is("FROM is what it was", x.fact(1, 5), -3000);
        Due.is("FROM -3000, once more", x.tell(1, 5, -3000), true);
    }

    private static void noneByZero() {
        Due.sentence("Term 1: MARK, 0 .. 60 (0: none); OWNER, 0 .. 9 (0: nobody's); SET, 0 .. 8 (0: none)");
        StonesOfWeight x = Due.stones(95);
        x.tell(0, 7, 3);
        x.tell(0, 8, 9);
        x.tell(0, 10, 8);
        Due.is("TIMES by its MARK", x.by(0, 10, 3), 3);
        Due.is("its OWNER has it", x.owner(9, 10, 0), 1);
        Due.is("its SET has it", x.set(8, 10, 0), 1);
        x.tell(0, 7, 0);
        x.tell(0, 8, 0);
        x.tell(0, 10, 0);
        Due.is("TIMES without a MARK", x.by(0, 10, 3), 9);
        Due.is("nobody's", x.owner(9, 10, 0), 0);
        Due.is("of no SET", x.set(8, 10, 0), 0);
        Due.is("nobody is no OWNER", x.owner(0, 10, 0), -1);
        Due.is("none is no SET", x.set(0, 10, 0), -1);
    }

    private static void otherFactsOfAListing() {
        Due.sentence("Term 1: its other FACTS are 0, FROM -3000, TO 1900, IN 1 then");
        StonesOfWeight x = new StonesOfWeight();
        x.stone(100, 1, 2);
        listed(x, "NOW");
        int[] others = {200, 3, 3, 150, 5, -7, 8, 60, 9, 0, 8};
        x.day(1);
        for (int f = 0; f <= 10; f++) {
            x.tell(0, f, others[f]);
        }
        for (int f = 0; f <= 10; f++) {
            Due.is("FACT " + f + " told anew", x.fact(0, f), others[f]);
        }
        x.view(0);
        listed(x, "by the DAY of its listing, though all FACTS are others since");
        x.view(1);
        for (int f = 0; f <= 10; f++) {
            Due.is("FACT " + f + " by the DAY of the others", x.fact(0, f), others[f]);
        }
    }

    private static void listed(StonesOfWeight x, String when) {
        for (int f = 0; f <= 10; f++) {
            Due.is("FACT " + f + " " + when, x.fact(0, f), LISTED[f]);
        }
    }

    private static void daysTo9999() {
        Due.sentence("Term 1: DAYS go from 0 on, to 9999");
        StonesOfWeight x = new StonesOfWeight();
        Due.is("0 at first", x.count(3), 0);
        Due.is("-1", x.day(-1), false);
        Due.is("10000", x.day(10000), false);
        Due.is("9999", x.day(9999), true);
        x.stone(100, 0, 0);
        Due.is("the ENTRY's DAY", x.entry(0, 0), 9999);
        Due.is("10000, from 9999", x.day(10000), false);
        Due.is("9999 once more", x.day(9999), true);
        Due.is("THE VIEW of the last DAY", x.view(9999), true);
        Due.is("it has the STONE", x.count(0), 1);
        Due.is("THE VIEW of the DAY ahead of it", x.view(9998), true);
        Due.is("it has none", x.count(0), 0);
    }

    private static void neverGoesBack() {
        Due.sentence("Term 1: the DAY of now .. never goes back");
        StonesOfWeight x = new StonesOfWeight();
        x.day(50);
        int[] earlier = {49, 1, 0, -1, Integer.MIN_VALUE};
        for (int day : earlier) {
            Due.is("day(" + day + ")", x.day(day), false);
            Due.is("the DAY", x.count(3), 50);
        }
        x.view(3);
        Due.is("THE VIEW goes back, the DAY does not", x.count(3), 50);
        x.stone(100, 0, 0);
        Due.is("an ENTRY is of the DAY, not of THE VIEW", x.entry(0, 0), 50);
    }

    private static void atMost400Entries() {
        Due.sentence("Term 1: Each listing, and each FACT that is told anew, is an ENTRY of that DAY, at most 400");
        StonesOfWeight told = Due.stones(100);
        for (int n = 2; n <= 400; n++) {
            Due.is("ENTRY " + n + " is told", told.tell(0, 2, n % 4), true);
        }
        Due.is("a 401st, told", told.tell(0, 2, 3), false);
        Due.is("a 401st, listed", told.stone(100, 0, 0), -1);
        Due.is("400 ENTRIES", told.count(2), 400);
        Due.is("one STONE", told.count(0), 1);
        Due.is("CHIPS by the 400th", told.fact(0, 2), 0);
        Due.is("the 400th", told.entry(399, 3), 0);
        StonesOfWeight listed = Due.stones(100);
        for (int n = 2; n <= 399; n++) {
            listed.tell(0, 2, 1);
        }
        Due.is("the 400th, listed", listed.stone(70, 0, 0), 1);
        Due.is("a 401st, told of it", listed.tell(1, 2, 3), false);
        Due.is("CHIPS of it", listed.fact(1, 2), 0);
    }

    private static void refusedCallsAreNoEntries() {
        Due.sentence("Term 1: Each listing, and each FACT that is told anew (a refused one is none)");
        StonesOfWeight x = Due.stones(100);
        for (int i = 0; i < 50; i++) {
            x.tell(0, 3, 100);
            x.stone(0, 0, 0);
        }
        Due.is("one ENTRY", x.count(2), 1);
        for (int n = 2; n <= 399; n++) {
            x.tell(0, 0, 200);
        }
        Due.is("the 400th", x.tell(0, 0, 300), true);
        Due.is("400 ENTRIES, though the FACT was the same", x.count(2), 400);
    }

    private static void entriesOfTheDay() {
        Due.sentence("Term 1: is an ENTRY of that DAY");
        StonesOfWeight x = Due.stones(100);
        x.day(7);
        x.tell(0, 2, 1);
        x.day(7);
        x.tell(0, 2, 2);
        x.day(9);
        x.stone(50, 0, 0);
        int[] days = {0, 7, 7, 9};
        for (int k = 0; k < days.length; k++) {
            Due.is("the DAY of ENTRY " + k, x.entry(k, 0), days[k]);
        }
    }

    private static void viewIsNowAtFirst() {
        Due.sentence("Term 1: THE VIEW is a DAY, or NOW (at first)");
        StonesOfWeight x = Due.stones(100);
        Due.is("NOW", x.count(4), -1);
        x.day(1);
        x.tell(0, 0, 200);
        Due.is("what comes later is seen", x.fact(0, 0), 200);
        Due.is("NOW still", x.count(4), -1);
    }

    private static void endOfThatDay() {
        Due.sentence("Term 1: is asked as THE BOOK was at the end of that DAY");
        StonesOfWeight x = Due.stones(100);
        x.day(2);
        x.tell(0, 0, 210);
        x.tell(0, 0, 220);
        x.day(4);
        x.tell(0, 0, 400);
        int[] weights = {100, 100, 220, 220, 400};
        for (int day = 0; day < weights.length; day++) {
            x.view(day);
            Due.is("FACT by DAY " + day, x.fact(0, 0), weights[day]);
            Due.is("SPAN by DAY " + day, x.span(0, 0), weights[day]);
            Due.is("BEST by DAY " + day, x.best(weights[day], weights[day] + 50), weights[day]);
        }
        x.tell(0, 0, 440);
        Due.is("told on the DAY of THE VIEW, behind view()", x.fact(0, 0), 440);
        x.day(5);
        x.tell(0, 0, 500);
        Due.is("told on the DAY behind it", x.fact(0, 0), 440);
        x.view(3);
        x.tell(0, 0, 510);
        Due.is("told while THE VIEW is an earlier DAY", x.fact(0, 0), 220);
        x.view(-1);
        Due.is("NOW", x.fact(0, 0), 510);
    }

    /** A STONE of DAY 0 and one of DAY 5, with all that a question could find them by. */
    private static StonesOfWeight oneEarlyOneLate() {
        StonesOfWeight x = new StonesOfWeight();
        x.stone(100, 0, 0);
        x.tell(0, 6, -500);
        x.day(5);
        x.stone(110, 0, 1);
        x.tell(1, 5, 0);
        x.tell(1, 8, 2);
        x.tell(1, 10, 2);
        return x;
    }

    private static void listedLater() {
        Due.sentence("Term 1: a STONE listed later is none then");
        StonesOfWeight x = oneEarlyOneLate();
        long[] none = {NO, -1, -1, -1, -1, -1, -1, 1, 1, 0, 0, 0, 10, -1, NO};
        long[] there = {110, 110, 110, 1, 0, 1, 0, 2, 2, 1, 1, 1, 20, 101, 10};
        questions(x, "NOW", there);
        x.view(4);
        questions(x, "by DAY 4", none);
        x.view(5);
        questions(x, "by DAY 5", there);
    }

    private static void questions(StonesOfWeight x, String when, long[] due) {
        long[] got = {x.fact(1, 0), x.span(1, 0), x.span(1, 1), x.span(1, 2), x.by(1, 10, 0), x.heap(1, 500),
            x.worth(1, 90, 120), x.count(0), x.count(1), x.count(11), x.set(2, 10, 0), x.owner(2, 10, 0),
            x.score(10), x.rate(0, 1, 90, 120, 200), x.drift(0, 90, 120)};
        for (int i = 0; i < due.length; i++) {
            Due.is("question " + i + " of it " + when, got[i], due[i]);
        }
    }

    private static void judgedByFactsNow() {
        Due.sentence("Term 1: (What is told anew is judged by FACTS NOW.)");
        StonesOfWeight x = Due.stones(100, 100);
        x.day(1);
        x.tell(0, 0, 50);
        x.tell(0, 6, 0);
        x.tell(1, 0, 200);
        x.stone(30, 0, 0);
        x.view(0);
        Due.is("LEAD 50, less than the WEIGHT by THE VIEW alone", x.tell(0, 3, 50), false);
        Due.is("LEAD 49, less than both", x.tell(0, 3, 49), true);
        Due.is("LEAD 150, less than the WEIGHT NOW alone", x.tell(1, 3, 150), true);
        Due.is("WEIGHT 49, above the LEAD by THE VIEW alone", x.tell(0, 0, 49), false);
        Due.is("FROM 1, not above TO by THE VIEW alone", x.tell(0, 5, 1), false);
        Due.is("FROM 0", x.tell(0, 5, 0), true);
        Due.is("TO -1, not below FROM by THE VIEW alone", x.tell(0, 6, -1), false);
        Due.is("a STONE that THE VIEW has not", x.tell(2, 3, 29), true);
        Due.is("no LEAD by THE VIEW", x.fact(0, 3), 0);
        Due.is("no such STONE by THE VIEW", x.fact(2, 3), NO);
        x.view(-1);
        Due.is("LEAD NOW", x.fact(0, 3), 49);
        Due.is("LEAD NOW", x.fact(1, 3), 150);
        Due.is("LEAD NOW", x.fact(2, 3), 29);
    }

    private static void newObject() {
        Due.sentence("Promise 1: No STONES, no texts; DAY 0, THE VIEW is NOW, all are CHOSEN; no images");
        StonesOfWeight x = new StonesOfWeight();
        int[] counts = {0, 0, 0, 0, -1, 0, 0, -1, -1, -1, 0, 0, 0, 0, 0, 0};
        for (int what = 0; what < counts.length; what++) {
            Due.is("count(" + what + ")", x.count(what), counts[what]);
        }
        for (int k = 0; k < 3; k++) {
            Due.is("again(" + k + ")", x.again(k), false);
        }
        Due.is("nothing on the tape", x.end(1), -1);
        Due.is("no STONE 0", x.fact(0, 0), NO);
        for (int i = 0; i < 30; i++) {
            x.stone(100, i % 5, i / 5);
        }
        x.tell(0, 6, -3000);
        x.tell(1, 5, 1900);
        x.tell(2, 7, 60);
        Due.is("all are CHOSEN, of every TOWN, STUFF, year and MARK", x.count(1), 30);
    }

    private static void numberOfAStone() {
        Due.sentence("Promise 2: its number. NONE: there are 32, 400 ENTRIES, or other numbers");
        StonesOfWeight x = new StonesOfWeight();
        Due.is("WEIGHT 0", x.stone(0, 0, 0), -1);
        Due.is("WEIGHT 30001", x.stone(30001, 0, 0), -1);
        Due.is("STUFF -1", x.stone(1, -1, 0), -1);
        Due.is("STUFF 5", x.stone(1, 5, 0), -1);
        Due.is("TOWN -1", x.stone(1, 0, -1), -1);
        Due.is("TOWN 6", x.stone(1, 0, 6), -1);
        Due.is("the first number is still free", x.stone(1, 0, 0), 0);
        Due.is("the most of all", x.stone(30000, 4, 5), 1);
        x.day(1);
        x.view(0);
        Due.is("its number, though THE VIEW has it not", x.stone(7, 0, 0), 2);
    }

    private static void tellRefuses() {
        Due.sentence("Promise 3: false: there is none such (of either), it can't be, or there are 400 ENTRIES");
        StonesOfWeight x = Due.stones(100);
        Due.is("STONE 1", x.tell(1, 2, 1), false);
        Due.is("STONE -1", x.tell(-1, 2, 1), false);
        Due.is("FACT 11", x.tell(0, 11, 1), false);
        Due.is("FACT -1", x.tell(0, -1, 1), false);
        Due.is("neither", x.tell(32, 99, 1), false);
        Due.is("CHIPS 4", x.tell(0, 2, 4), false);
        Due.is("CHIPS 3", x.tell(0, 2, 3), true);
        Due.is("the same value is told anew, too", x.tell(0, 2, 3), true);
        Due.is("three ENTRIES", x.count(2), 3);
    }

    private static void dayRefuses() {
        Due.sentence("Promise 4: false: it is earlier than it was, or above 9999");
        StonesOfWeight x = new StonesOfWeight();
        Due.is("the same", x.day(0), true);
        Due.is("the next", x.day(1), true);
        Due.is("that ahead of it", x.day(0), false);
        Due.is("far above", x.day(Integer.MAX_VALUE), false);
        Due.is("one above", x.day(10000), false);
        Due.is("the DAY is what it was", x.count(3), 1);
    }

    private static void viewRefuses() {
        Due.sentence("Promise 5: THE VIEW is a DAY (NONE: NOW): true; false for another one (later than now, too)");
        StonesOfWeight x = new StonesOfWeight();
        x.day(10);
        Due.is("today", x.view(10), true);
        int[] wrong = {11, 9999, 10000, -2, Integer.MIN_VALUE, Integer.MAX_VALUE};
        for (int day : wrong) {
            Due.is("view(" + day + ")", x.view(day), false);
            Due.is("THE VIEW is what it was", x.count(4), 10);
        }
        Due.is("NOW", x.view(-1), true);
        Due.is("NOW", x.count(4), -1);
        Due.is("the first DAY", x.view(0), true);
        x.day(11);
        Due.is("a DAY that has come", x.view(11), true);
        Due.is("a DAY without any ENTRY", x.view(5), true);
        Due.is("it", x.count(4), 5);
    }

    private static void factByTheView() {
        Due.sentence("Promise 6: A FACT of a STONE by THE VIEW. -100000: there is none such");
        StonesOfWeight x = new StonesOfWeight();
        Due.is("no STONES at all", x.fact(0, 0), NO);
        x.stone(100, 1, 2);
        int[] numbers = {1, -1, 32, Integer.MIN_VALUE, Integer.MAX_VALUE};
        for (int stone : numbers) {
            Due.is("fact(" + stone + ", 0)", x.fact(stone, 0), NO);
        }
        int[] facts = {11, -1, Integer.MIN_VALUE, Integer.MAX_VALUE};
        for (int fact : facts) {
            Due.is("fact(0, " + fact + ")", x.fact(0, fact), NO);
        }
        Due.is("the first FACT", x.fact(0, 0), 100);
        Due.is("the last FACT", x.fact(0, 10), 0);
    }

    private static void entryTells() {
        Due.sentence("Promise 7: 2: FACT (NONE: it was listed), 3: the value (its WEIGHT then). -100000: none such");
        StonesOfWeight x = new StonesOfWeight();
        Due.is("no ENTRIES at all", x.entry(0, 0), NO);
        x.stone(100, 4, 5);
        x.day(3);
        x.tell(0, 0, 200);
        x.view(0);
        long[][] due = {{0, 0, -1, 100}, {3, 0, 0, 200}};
        for (int k = 0; k < 2; k++) {
            for (int what = 0; what < 4; what++) {
                Due.is("entry(" + k + ", " + what + ")", x.entry(k, what), due[k][what]);
            }
        }
        int[] wrong = {-1, 4, Integer.MIN_VALUE, Integer.MAX_VALUE};
        for (int what : wrong) {
            Due.is("entry(0, " + what + ")", x.entry(0, what), NO);
        }
        int[] numbers = {-1, 2, 400, Integer.MIN_VALUE, Integer.MAX_VALUE};
        for (int k : numbers) {
            Due.is("entry(" + k + ", 0)", x.entry(k, 0), NO);
        }
    }
}
