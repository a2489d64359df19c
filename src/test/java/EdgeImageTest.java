/** Promises 29 to 31: each sentence that names a boundary, with a test of its own. */
public final class EdgeImageTest {
    private static final int NO = -100000;

    public static void main(String[] args) {
        counts();
        countByTheView();
        countRefuses();
        imageRefuses();
        againRefuses();
        asItIsNow();
        ofNothing();
        bookOfTwoWays();
        listingsOfTwoWays();
        dayAndView();
        tape();
        faults();
        texts();
        choice();
        fullBook();
        imagesStay();
        Due.finish("EdgeImageTest");
    }

    private static void counts() {
        Due.sentence("Promise 29: How many: 0 STONES .., 1 CHOSEN, 2 ENTRIES, 3 the DAY of now, 4 THE VIEW .., 5 LINES of WEAR, 6 of PROOF; 10 .. 15: CHOSEN of TOWN what - 10");
        StonesOfWeight x = new StonesOfWeight();
        for (int i = 0; i < 21; i++) {
            // TOWN 0 has one, TOWN 1 two, .. TOWN 5 six.
            x.stone(100, 0, i < 1 ? 0 : i < 3 ? 1 : i < 6 ? 2 : i < 10 ? 3 : i < 15 ? 4 : 5);
        }
        x.day(9999);
        x.tell(20, 9, 0);
        Due.wear(x, "stop;".repeat(16));
        Due.proof(x, "sure;".repeat(15));
        int[] due = {21, 20, 22, 9999, -1, 16, 15, -1, -1, -1, 1, 2, 3, 4, 5, 5, -1};
        for (int what = 0; what < due.length; what++) {
            Due.is("count(" + what + ")", x.count(what), due[what]);
        }
    }

    private static void countByTheView() {
        Due.sentence("Promise 29: 0 STONES (by THE VIEW), .. 4 THE VIEW (NONE: NOW)");
        StonesOfWeight x = Due.stones(100);
        x.day(1);
        x.stone(100, 0, 0);
        x.tell(0, 4, 1);
        int[][] due = {{1, 1, 3, 1, 0, 1, 0}, {2, 2, 3, 1, 1, 1, 1}, {2, 2, 3, 1, -1, 1, 1}};
        int[] views = {0, 1, -1};
        int[] whats = {0, 1, 2, 3, 4, 10, 11};
        for (int i = 0; i < 3; i++) {
            x.view(views[i]);
            for (int j = 0; j < whats.length; j++) {
                Due.is("count(" + whats[j] + ") by " + views[i], x.count(whats[j]), due[i][j]);
            }
        }
    }

    private static void countRefuses() {
        Due.sentence("Promise 29: NONE for another what");
        StonesOfWeight x = Due.stones(100);
        int[] wrong = {-1, 7, 8, 9, 16, 17, 100, Integer.MIN_VALUE, Integer.MAX_VALUE};
        for (int what : wrong) {
            Due.is("count(" + what + ")", x.count(what), -1);
        }
    }

    private static void imageRefuses() {
        Due.sentence("Promise 30: Image k (0 .. 2) ..: true; false for another k");
        StonesOfWeight x = new StonesOfWeight();
        int[] wrong = {-1, 3, 4, Integer.MIN_VALUE, Integer.MAX_VALUE};
        for (int k : wrong) {
            Due.is("image(" + k + ")", x.image(k), false);
        }
        for (int k = 0; k < 3; k++) {
            Due.is("no image was made, " + k, x.again(k), false);
        }
        for (int k = 0; k < 3; k++) {
            Due.is("image(" + k + ")", x.image(k), true);
        }
    }

    private static void againRefuses() {
        Due.sentence("Promise 31: false if there is none such");
        StonesOfWeight x = Due.stones(100);
        for (int k = -1; k <= 3; k++) {
            Due.is("again(" + k + ")", x.again(k), false);
        }
        x.image(1);
        x.tell(0, 0, 200);
        int[] wrong = {0, 2, -1, 3, Integer.MIN_VALUE, Integer.MAX_VALUE};
        for (int k : wrong) {
            Due.is("again(" + k + ")", x.again(k), false);
            Due.is("all is as it was", x.fact(0, 0), 200);
        }
        Due.is("again(1)", x.again(1), true);
        Due.is("image 1", x.fact(0, 0), 100);
        Due.is("another object's images", new StonesOfWeight().again(1), false);
    }

    private static void asItIsNow() {
        Due.sentence("Promise 30: all that is told .., as it is now");
        StonesOfWeight x = Due.stones(100);
        x.image(0);
        x.tell(0, 0, 200);
        x.stone(50, 0, 0);
        x.again(0);
        Due.is("what came later is not in it", x.fact(0, 0), 100);
        Due.is("nor is the STONE", x.count(0), 1);
        x.tell(0, 0, 300);
        x.image(0);
        x.tell(0, 0, 400);
        x.again(0);
        Due.is("the same image made anew", x.fact(0, 0), 300);
        Due.is("its ENTRIES", x.count(2), 2);
    }

    private static void ofNothing() {
        Due.sentence("Promise 31: All that is as image k has it (of a new object, too)");
        StonesOfWeight x = new StonesOfWeight();
        x.image(2);
        x.stone(100, 1, 1);
        x.tell(0, 7, 5);
        x.day(9);
        x.view(4);
        Due.wear(x, "more 100;");
        Due.proof(x, "sure;");
        Due.wear(x, "%");
        x.feed(0, 0, 0, 0, 0);
        x.choose(0, 0, 0, 0, 1);
        x.again(2);
        int[] counts = {0, 0, 0, 0, -1, 0, 0};
        for (int what = 0; what < counts.length; what++) {
            Due.is("count(" + what + ")", x.count(what), counts[what]);
        }
        Due.is("no FAULT", x.fault(0), 0);
        Due.is("no place", x.fault(1), -1);
        Due.is("nothing on the tape", x.end(1), -1);
        Due.is("no ENTRY", x.entry(0, 0), NO);
        Due.is("the first number", x.stone(50, 0, 0), 0);
        Due.is("no MARK of the STONE that was", x.fact(0, 7), 0);
        Due.is("all are CHOSEN", x.span(0, 2), 1);
        Due.is("no WEAR", x.span(0, 1), 50);
        Due.is("DAY 0 again", x.day(0), true);
    }

    /** Two ways on from one image: what each wrote into the same ENTRIES is its own. */
    private static void bookOfTwoWays() {
        Due.sentence("Promise 31: All that is as image k has it (ENTRIES and FACTS)");
        StonesOfWeight x = Due.stones(100, 200);
        x.image(0);
        x.day(3);
        x.tell(0, 0, 111);
        x.tell(1, 7, 6);
        x.image(1);
        x.again(0);
        x.day(5);
        x.tell(1, 2, 3);
        x.tell(0, 8, 9);
        x.image(2);
        int[][][] due = {{{3, 0, 0, 111}, {3, 1, 7, 6}}, {{5, 1, 2, 3}, {5, 0, 8, 9}}};
        for (int round = 0; round < 2; round++) {
            for (int way = 0; way < 2; way++) {
                Due.is("again", x.again(1 + way), true);
                for (int k = 0; k < 2; k++) {
                    for (int what = 0; what < 4; what++) {
                        Due.is("way " + way + ", ENTRY " + (2 + k) + ", " + what, x.entry(2 + k, what), due[way][k][what]);
                    }
                }
                x.view(x.count(3));
                Due.is("WEIGHT", x.fact(0, 0), way == 0 ? 111 : 100);
                Due.is("MARK", x.fact(1, 7), way == 0 ? 6 : 0);
                Due.is("CHIPS", x.fact(1, 2), way == 0 ? 0 : 3);
                Due.is("OWNER", x.fact(0, 8), way == 0 ? 0 : 9);
                x.view(x.count(3) - 1);
                Due.is("WEIGHT, a DAY earlier", x.fact(0, 0), 100);
                Due.is("LEAD is judged by the WEIGHT NOW", x.tell(0, 3, 105), way == 0);
            }
        }
    }

    private static void listingsOfTwoWays() {
        Due.sentence("Promise 31: All that is as image k has it (STONES as they were listed)");
        StonesOfWeight x = new StonesOfWeight();
        x.image(0);
        x.stone(100, 1, 2);
        x.day(1);
        x.tell(0, 1, 0);
        x.tell(0, 4, 0);
        x.image(1);
        x.again(0);
        x.stone(300, 3, 4);
        x.day(1);
        x.tell(0, 1, 2);
        x.tell(0, 4, 1);
        x.image(2);
        int[][] listed = {{100, 1, 2}, {300, 3, 4}};
        int[][] told = {{100, 0, 0}, {300, 2, 1}};
        int[] facts = {0, 1, 4};
        for (int round = 0; round < 2; round++) {
            for (int way = 0; way < 2; way++) {
                x.again(1 + way);
                for (int i = 0; i < 3; i++) {
                    Due.is("NOW, FACT " + facts[i], x.fact(0, facts[i]), told[way][i]);
                }
                x.view(0);
                for (int i = 0; i < 3; i++) {
                    Due.is("as listed, FACT " + facts[i], x.fact(0, facts[i]), listed[way][i]);
                }
            }
        }
    }

    private static void dayAndView() {
        Due.sentence("Promise 31: All that is as image k has it (DAY and VIEW)");
        StonesOfWeight x = Due.stones(100);
        x.day(5);
        x.tell(0, 0, 200);
        x.view(4);
        x.image(0);
        x.day(9);
        x.view(-1);
        Due.is("NOW", x.fact(0, 0), 200);
        x.again(0);
        Due.is("the DAY, though it goes back", x.count(3), 5);
        Due.is("THE VIEW", x.count(4), 4);
        Due.is("FACTS by it", x.fact(0, 0), 100);
        Due.is("a later DAY is none", x.view(6), false);
        Due.is("an earlier DAY is none", x.day(4), false);
        x.view(5);
        x.image(1);
        x.view(0);
        x.again(1);
        x.tell(0, 0, 250);
        Due.is("told on the DAY of THE VIEW", x.fact(0, 0), 250);
    }

    private static void tape() {
        Due.sentence("Promise 30: (tape, .. too)");
        StonesOfWeight x = new StonesOfWeight();
        Due.tape(x, "stop;stop;");
        x.image(0);
        Due.tape(x, "stop;%");
        x.image(1);
        Due.tape(x, " ".repeat(500));
        x.image(2);
        Due.is("text", x.text(false), 0);
        x.again(0);
        Due.is("not eleven bytes", x.end(11), -1);
        Due.is("ten bytes", x.end(10), 10);
        Due.is("two LINES", x.text(false), 2);
        x.again(1);
        Due.is("a FAULT", x.text(false), -1);
        Due.is("its place", x.fault(1), 5);
        x.again(2);
        Due.is("full", x.feed(0, 0, 0, 0, 0), -1);
        Due.is("500 bytes", x.end(500), 500);
        x.again(0);
        Due.is("as long as it was", x.feed(0, 0, 0, 0, 0), 30);
    }

    private static void faults() {
        Due.sentence("Promise 30: (.. FAULT, .. too)");
        StonesOfWeight x = new StonesOfWeight();
        Due.wear(x, "more 5 to 4;");
        x.image(0);
        Due.proof(x, "sure");
        x.image(1);
        x.text(false);
        x.again(0);
        Due.is("the FAULT", x.fault(0), 2);
        Due.is("its place", x.fault(1), 10);
        x.again(1);
        Due.is("the FAULT", x.fault(0), 1);
        Due.is("its place", x.fault(1), 4);
    }

    private static void texts() {
        Due.sentence("Promise 30: (.. texts, .. too)");
        StonesOfWeight x = Due.stones(1000);
        String four = "if stuff=0 and not chips>0 and lead<1 and town=0:";
        Due.wear(x, four + "more 100 to 200;");
        Due.proof(x, "if many=1 and not near>1 and mean<1001 and towns<7:against;");
        x.image(0);
        Due.wear(x, "if stuff>0 and chips>0 and not lead<1 and not town=0:less 1 to 2;more 5;");
        Due.proof(x, "if near>3 and many>9 and not towns<7 and mean>1001:sure;likely;");
        x.image(1);
        Due.wear(x, "less 500;");
        Due.proof(x, "");
        for (int round = 0; round < 2; round++) {
            x.again(0);
            Due.is("the least", x.span(0, 0), 1100);
            Due.is("the greatest", x.span(0, 1), 1200);
            Due.is("VERDICT", x.verdict(50, 50, 50), 3);
            Due.is("LINES", x.count(5) * 10 + x.count(6), 11);
            x.again(1);
            Due.is("the least", x.span(0, 0), 1005);
            Due.is("the greatest", x.span(0, 1), 1005);
            Due.is("VERDICT", x.verdict(50, 50, 50), 1);
            Due.is("LINES", x.count(5) * 10 + x.count(6), 22);
        }
    }

    private static void choice() {
        Due.sentence("Promise 30: (.. VIEW and CHOICE, too)");
        int[][] choices = {{1, 31, -3000, 1900, 0}, {63, 1, -3000, 1900, 0}, {63, 31, 0, 1900, 0},
            {63, 31, -3000, -1, 0}, {63, 31, -3000, 1900, 1}, {63, 31, -3000, 1900, 2}};
        // TOWN 1; STUFF 1; to -1; from 0; a MARK: which of these five each CHOICE has.
        int[][] due = {{0, 1, 1, 1, 1}, {1, 0, 1, 1, 1}, {1, 1, 0, 1, 1}, {1, 1, 1, 0, 1}, {0, 0, 0, 0, 1}, {1, 1, 1, 1, 0}};
        for (int i = 0; i < choices.length; i++) {
            StonesOfWeight x = Due.stones(100, 100, 100, 100, 100);
            x.tell(0, 4, 1);
            x.tell(1, 1, 1);
            x.tell(2, 6, -1);
            x.tell(3, 5, 0);
            x.tell(4, 7, 1);
            int[] c = choices[i];
            x.choose(c[0], c[1], c[2], c[3], c[4]);
            x.image(0);
            x.choose(62, 30, 0, 0, c[4] == 1 ? 2 : 1);
            x.again(0);
            for (int s = 0; s < 5; s++) {
                Due.is("CHOICE " + i + ", STONE " + s, x.span(s, 2), due[i][s]);
            }
        }
    }

    private static void fullBook() {
        Due.sentence("Promise 31: All that is as image k has it (32 STONES, 400 ENTRIES)");
        StonesOfWeight x = new StonesOfWeight();
        x.image(1);
        for (int i = 0; i < 32; i++) {
            x.stone(100 + i, i % 5, i % 6);
        }
        for (int i = 32; i < 400; i++) {
            x.tell(i % 32, 3, i % 100);
        }
        x.image(0);
        x.again(1);
        x.stone(7, 0, 0);
        x.again(0);
        Due.is("STONES", x.count(0), 32);
        Due.is("ENTRIES", x.count(2), 400);
        Due.is("the last ENTRY", x.entry(399, 3), 99);
        Due.is("the first ENTRY", x.entry(0, 3), 100);
        Due.is("full", x.tell(0, 2, 1), false);
        Due.is("full", x.stone(7, 0, 0), -1);
        for (int s = 0; s < 32; s++) {
            Due.is("WEIGHT of " + s, x.fact(s, 0), 100 + s);
            Due.is("LEAD of " + s, x.fact(s, 3), ((s < 16 ? 384 : 352) + s) % 100);
        }
    }

    private static void imagesStay() {
        Due.sentence("Promise 31: All that is as image k has it: true (as often as it is asked; images are no part of it)");
        StonesOfWeight x = Due.stones(100);
        x.image(0);
        x.tell(0, 0, 200);
        x.image(1);
        x.again(0);
        Due.is("an image made later than image 0 is there", x.again(1), true);
        Due.is("it", x.fact(0, 0), 200);
        for (int round = 0; round < 3; round++) {
            Due.is("again(0)", x.again(0), true);
            Due.is("WEIGHT", x.fact(0, 0), 100);
            Due.is("an ENTRY behind it", x.tell(0, 0, 300 + round), true);
            Due.is("it is the second", x.count(2), 2);
        }
        Due.is("image 2 of what is now", x.image(2), true);
        x.again(1);
        x.again(2);
        Due.is("WEIGHT", x.fact(0, 0), 302);
    }
}
