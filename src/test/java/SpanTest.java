/** Promises 12 to 14: choose, span, by. */
public final class SpanTest {
    public static void main(String[] args) {
        choose();
        chooseYears();
        chooseMarks();
        spanByWear();
        everyKey();
        limits();
        byUnit();
        byMark();
        bySpan();
        Due.finish("SpanTest");
    }

    private static void choose() {
        StonesOfWeight x = new StonesOfWeight();
        for (int town = 0; town < 6; town++) {
            for (int stuff = 0; stuff < 5; stuff++) {
                x.stone(100, stuff, town);
            }
        }
        Due.is("all at first", x.count(1), 30);
        Due.is("y below", x.choose(1, 1, -3001, 0, 0), false);
        Due.is("z above", x.choose(1, 1, 0, 1901, 0), false);
        Due.is("y above z", x.choose(1, 1, 1, 0, 0), false);
        Due.is("marks below", x.choose(1, 1, 0, 0, -1), false);
        Due.is("marks above", x.choose(1, 1, 0, 0, 3), false);
        Due.is("y above", x.choose(1, 1, 1901, 1901, 0), false);
        Due.is("z below", x.choose(1, 1, -3001, -3001, 0), false);
        Due.is("all still", x.count(1), 30);
        Due.is("one TOWN, one STUFF", x.choose(1 << 5, 1 << 4, -3000, 1900, 0), true);
        Due.is("one is CHOSEN", x.count(1), 1);
        Due.is("the last", x.span(29, 2), 1);
        Due.is("not that ahead of it", x.span(28, 2), 0);
        Due.is("two TOWNS", x.choose(1 | 1 << 3, -1, 0, 0, 0), true);
        Due.is("ten are CHOSEN", x.count(1), 10);
        Due.is("bits that are none", x.choose(~63, -1, 0, 0, 0), true);
        Due.is("none is CHOSEN", x.count(1), 0);
        Due.is("bits that are none", x.choose(-1, ~31, 0, 0, 0), true);
        Due.is("none is CHOSEN", x.count(1), 0);
        x.choose(-1, -1, 0, 0, 0);
        x.tell(3, 9, 0);
        Due.is("OUT", x.span(3, 2), 0);
        Due.is("but it has a SPAN", x.span(3, 0), 100);
        Due.is("one less", x.count(1), 29);
    }

    private static void chooseYears() {
        StonesOfWeight x = Due.stones(100);
        x.tell(0, 5, -100);
        x.tell(0, 6, 200);
        int[][] rows = {{-3000, -101, 0}, {-3000, -100, 1}, {200, 1900, 1}, {201, 1900, 0}, {0, 0, 1}, {-500, 500, 1}};
        for (int[] r : rows) {
            Due.is("choose", x.choose(63, 31, r[0], r[1], 0), true);
            Due.is("a year from " + r[0] + " to " + r[1], x.span(0, 2), r[2]);
        }
    }

    private static void chooseMarks() {
        StonesOfWeight x = Due.stones(100, 200, 300);
        x.tell(1, 7, 5);
        int[] many = {3, 1, 2};
        x.tell(1, 7, 1);
        for (int marks = 0; marks < 3; marks++) {
            x.choose(63, 31, -3000, 1900, marks);
            Due.is("marks " + marks, x.count(1), many[marks]);
            Due.is("the one with a MARK by " + marks, x.span(1, 2), marks == 2 ? 0 : 1);
        }
    }

    private static void spans(StonesOfWeight x, int stone, int low, int high) {
        Due.is("the least of " + stone, x.span(stone, 0), low);
        Due.is("the greatest of " + stone, x.span(stone, 1), high);
    }

    private static void spanByWear() {
        StonesOfWeight x = new StonesOfWeight();
        x.stone(1000, 1, 0);
        x.stone(1000, 0, 0);
        x.tell(0, 2, 2);
        x.tell(0, 3, 100);
        Due.wear(x, "if chips>1 and not stuff=0:more 20 to 100;if lead>50:less 10;stop;more 500;");
        spans(x, 0, 909, 981);
        spans(x, 1, 1000, 1000);
        x.tell(1, 2, 3);
        spans(x, 1, 1000, 1000);
        x.tell(1, 3, 51);
        spans(x, 1, 940, 940);
        Due.wear(x, "more 500;if lead>50:stop;more 1;");
        spans(x, 0, 1350, 1350);
        manyLines();
        Due.is("no such STONE", x.span(2, 0), -1);
        Due.is("no such STONE", x.span(-1, 0), -1);
        Due.is("another what", x.span(0, 3), -1);
        Due.is("another what", x.span(0, -1), -1);
    }

    /** All but one of fifteen LINES hold for a MARK, and the last, of four TESTS, for those below 14. */
    private static void manyLines() {
        StonesOfWeight x = Due.stones(10000);
        StringBuilder text = new StringBuilder();
        for (int line = 0; line < 15; line++) {
            text.append("if not mark=").append(line + 1).append(":more ").append(line + 1).append(";");
        }
        text.append("if chips=0 and lead=0 and mark<15 and not mark=14:less 100 to 200;");
        Due.is("sixteen LINES", Due.wear(x, text.toString()), 16);
        spans(x, 0, 10000 + 10 * (120 - 200), 10000 + 10 * (120 - 100));
        for (int mark = 1; mark <= 15; mark++) {
            x.tell(0, 7, mark);
            int all = 120 - mark;
            boolean last = mark < 14;
            spans(x, 0, 10000 + 10 * (last ? all - 200 : all), 10000 + 10 * (last ? all - 100 : all));
        }
    }

    /** Each key by each sign, and by not, at the value of the FACT itself. */
    private static void everyKey() {
        String[] keys = {"stuff", "chips", "lead", "town", "mark", "owner", "age"};
        int[] values = {3, 2, 200, 4, 17, 6, 500};
        for (int i = 0; i < keys.length; i++) {
            StonesOfWeight x = withAllFacts();
            for (int by = -1; by <= 1; by++) {
                int bound = values[i] + by;
                holds(x, keys[i] + "<" + bound, by > 0);
                holds(x, keys[i] + ">" + bound, by < 0);
                holds(x, keys[i] + "=" + bound, by == 0);
            }
        }
        StonesOfWeight x = withAllFacts();
        holds(x, "stuff=3 and chips=2 and lead=200 and town=4", true);
        holds(x, "stuff=3 and chips=2 and lead=200 and town=5", false);
        holds(x, "stuff=0 and chips=2", false);
        holds(x, "not stuff=0 and not chips=0", true);
    }

    private static StonesOfWeight withAllFacts() {
        StonesOfWeight x = new StonesOfWeight();
        x.stone(1000, 3, 4);
        x.tell(0, 2, 2);
        x.tell(0, 3, 200);
        x.tell(0, 6, 1500);
        x.tell(0, 7, 17);
        x.tell(0, 8, 6);
        return x;
    }

    private static void holds(StonesOfWeight x, String test, boolean want) {
        Due.wear(x, "if " + test + ":more 500;");
        Due.is(test, x.span(0, 0), want ? 1200 : 800);
        if (!test.contains("and")) {
            Due.wear(x, "if not " + test + ":more 500;");
            Due.is("not " + test, x.span(0, 0), want ? 800 : 1200);
        }
    }

    private static void limits() {
        StonesOfWeight x = Due.stones(100, 999, 1001, 1, 30000);
        Due.wear(x, "more 600 to 900;more 600 to 900;");
        spans(x, 0, 200, 200);
        spans(x, 4, 60000, 60000);
        Due.wear(x, "less 400 to 700;");
        spans(x, 0, 50, 60);
        spans(x, 3, 1, 1);
        spans(x, 4, 15000, 18000);
        Due.wear(x, "less 9999;");
        spans(x, 4, 15000, 15000);
        Due.wear(x, "more 900;more 900;less 900;");
        spans(x, 0, 190, 190);
        Due.wear(x, "less 400;less 400;more 400;");
        spans(x, 0, 60, 60);
        Due.wear(x, "less 1;");
        spans(x, 1, 999, 999);
        spans(x, 2, 1000, 1000);
        Due.wear(x, "more 1 to 2;");
        spans(x, 1, 999, 1000);
        spans(x, 2, 1002, 1003);
    }

    private static void four(StonesOfWeight x, int unit, int off, int near, int lacking, int times) {
        int[] due = {off, near, lacking, times};
        for (int what = 0; what < 4; what++) {
            Due.is("by(0, " + unit + ", " + what + ")", x.by(0, unit, what), due[what]);
        }
    }

    private static void byUnit() {
        StonesOfWeight x = Due.stones(95);
        four(x, 10, 5, 0, 5, 9);
        four(x, 40, 15, 0, 0, 2);
        four(x, 19, 0, 1, 0, 5);
        four(x, 2000, 1905, 0, 1905, 1);
        four(x, 100, 5, 1, 5, 1);
        four(x, 190, 95, 0, 95, 1);
        four(x, 32, 1, 1, 1, 3);
        four(x, 45, 5, 1, 0, 2);
        four(x, 44, 7, 0, 0, 2);
        Due.is("no such UNIT", x.by(0, 9, 0), -1);
        Due.is("no such UNIT", x.by(0, 2001, 0), -1);
        Due.is("no such UNIT", x.by(0, 0, 0), -1);
        Due.is("no such UNIT", x.by(0, Integer.MIN_VALUE, 0), -1);
        Due.is("no such STONE", x.by(1, 10, 0), -1);
        Due.is("no such STONE", x.by(-1, 10, 0), -1);
        Due.is("another what", x.by(0, 10, 4), -1);
        Due.is("another what", x.by(0, 10, -1), -1);
        StonesOfWeight y = Due.stones(85);
        four(y, 40, 5, 1, 0, 2);
        y.tell(0, 0, 86);
        four(y, 40, 6, 0, 0, 2);
        y.tell(0, 9, 0);
        four(y, 40, 6, 0, 0, 2);
    }

    private static void byMark() {
        StonesOfWeight x = Due.stones(95);
        x.tell(0, 7, 3);
        four(x, 40, 25, 0, 25, 3);
        x.tell(0, 7, 1);
        four(x, 10, 10, 0, 0, 1);
        x.tell(0, 7, 60);
        four(x, 10, 10, 0, 505, 60);
        x.tell(0, 7, 2);
        four(x, 50, 5, 1, 5, 2);
        four(x, 45, 5, 1, 0, 2);
    }

    private static void bySpan() {
        StonesOfWeight x = Due.stones(95);
        Due.wear(x, "more 0 to 100;");
        spans(x, 0, 95, 104);
        four(x, 10, 0, 1, 0, 10);
        four(x, 104, 0, 1, 0, 1);
        four(x, 95, 0, 1, 0, 1);
        four(x, 60, 16, 0, 16, 2);
        four(x, 40, 15, 0, 16, 2);
        Due.wear(x, "less 500;more 0 to 1000;");
        spans(x, 0, 48, 142);
        four(x, 10, 0, 1, 0, 5);
        four(x, 11, 0, 1, 1, 5);
        four(x, 48, 0, 1, 2, 1);
        four(x, 200, 58, 0, 58, 1);
        x.tell(0, 7, 4);
        four(x, 11, 4, 0, 0, 4);
        four(x, 40, 18, 0, 18, 4);
    }
}
