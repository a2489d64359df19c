/** Promises 8 to 11: feed, end, text, fault. */
public final class TextTest {
    public static void main(String[] args) {
        feed();
        end();
        taken();
        soundTexts();
        grammar();
        otherFaults();
        faultsAreOfTheLatest();
        oldTextStays();
        Due.finish("TextTest");
    }

    private static void feed() {
        StonesOfWeight x = new StonesOfWeight();
        for (int n = 20; n <= 500; n += 20) {
            Due.is("feed", x.feed(0, 0, 0, 0, 0), n);
        }
        Due.is("more than 500", x.feed(0, 0, 0, 0, 0), -1);
        Due.is("nothing came", x.end(500), 500);
        Due.is("nothing came", x.end(501), -1);
        x.end(481);
        Due.is("one too many", x.feed(1, 2, 3, 4, 5), -1);
        Due.is("nothing came", x.end(482), -1);
        x.end(480);
        Due.is("just as many", x.feed(1, 2, 3, 4, 5), 500);
        x.end(0);
        // The highest byte first: "stop" ";if " "age>" "1:st" "op; ".
        x.feed(0x73746f70, 0x3b696620, 0x6167653e, 0x313a7374, 0x6f703b20);
        Due.is("the order of bytes", x.text(false), 2);
    }

    private static void end() {
        StonesOfWeight x = new StonesOfWeight();
        Due.is("nothing there", x.end(0), 0);
        Due.is("nothing there", x.end(1), -1);
        x.feed(0, 0, 0, 0, 0);
        Due.is("below 0", x.end(-1), -1);
        Due.is("too many", x.end(21), -1);
        Due.is("far too many", x.end(Integer.MAX_VALUE), -1);
        Due.is("all", x.end(20), 20);
        Due.is("some", x.end(7), 7);
        Due.is("no longer there", x.end(8), -1);
        Due.is("behind it", x.feed(0, 0, 0, 0, 0), 27);
    }

    private static void taken() {
        StonesOfWeight x = new StonesOfWeight();
        Due.is("no bytes at all", x.text(false), 0);
        Due.is("no fault", x.fault(0), 0);
        Due.is("a text", Due.wear(x, "stop;"), 1);
        Due.is("the tape is empty then", x.end(1), -1);
        Due.is("a fault", Due.wear(x, "stop"), -1);
        Due.is("the tape is empty then, too", x.end(1), -1);
    }

    private static void soundTexts() {
        StonesOfWeight x = new StonesOfWeight();
        Due.is("wear", Due.wear(x, "if chips>1 and not stuff=0:more 20 to 100;if lead>50:less 10;stop;more 500;"), 4);
        Due.is("count(5)", x.count(5), 4);
        Due.is("count(6)", x.count(6), 0);
        Due.is("proof", Due.proof(x, "if near>2 and tried<9000:sure;if place<1:likely;against;"), 3);
        Due.is("count(5)", x.count(5), 4);
        Due.is("count(6)", x.count(6), 3);
        Due.is("all keys of wear", Due.wear(x,
                "if stuff=1 and chips<2 and lead>3 and town=4:stop;if mark=5 and owner=6 and not age=7:stop;"), 2);
        Due.is("all keys of proof", Due.proof(x, "if many=1 and near<2 and mean>3 and chance=4:open;"
                + "if tried=5 and place=6 and towns=7 and not marks=8:open;"), 2);
        Due.is("blanks", Due.wear(x, "\n if  not\nage > 1 : more 5to6 ;\n\nstop ; "), 2);
        Due.is("no blanks where none are needed", Due.wear(x, "more 0005to9999;"), 1);
        Due.is("blanks alone", Due.wear(x, "  \n "), 0);
        Due.is("alike on both sides of to", Due.wear(x, "less 5 to 5;"), 1);
        Due.is("16 LINES", Due.wear(x, "stop;".repeat(16)), 16);
        Due.is("4 TESTS", Due.proof(x, "if near>1 and near>1 and near>1 and not near>1:sure;"), 1);
        Due.is("no fault", x.fault(0), 0);
        Due.is("no place", x.fault(1), -1);
    }

    private static void wrong(boolean proof, String text, int fault, int place) {
        StonesOfWeight x = new StonesOfWeight();
        Due.is("text of " + text, proof ? Due.proof(x, text) : Due.wear(x, text), -1);
        Due.is("fault(0) of " + text, x.fault(0), fault);
        Due.is("fault(1) of " + text, x.fault(1), place);
    }

    private static void grammar() {
        wrong(false, "more", 1, 4);
        wrong(false, "more  \n", 1, 7);
        wrong(false, "mor", 1, 0);
        wrong(false, "if age:stop;", 1, 6);
        wrong(false, "less 5 to;", 1, 9);
        wrong(false, "stop 5;", 1, 5);
        wrong(false, "more 12345;", 1, 5);
        wrong(false, "more 1 to 12345;", 1, 10);
        wrong(false, "if not not age>1:stop;", 1, 7);
        wrong(false, "sure;", 1, 0);
        wrong(true, "stop;", 1, 0);
        wrong(true, "more 5;", 1, 0);
        wrong(true, "if near 1:sure;", 1, 8);
        wrong(true, "sure", 1, 4);
        wrong(true, "if age>1:sure;", 1, 3);
        wrong(false, "if near>1:stop;", 1, 3);
        wrong(false, "stop;stop", 1, 9);
        wrong(false, "stop;;", 1, 5);
        wrong(false, "stop;%", 1, 5);
        wrong(false, "st%op;", 1, 0);
        wrong(false, "stop%;", 1, 4);
        wrong(false, "stop\t;", 1, 4);
        wrong(false, "Stop;", 1, 0);
        wrong(false, "sTop;", 1, 0);
        wrong(false, "stop\u00e9;", 1, 4);
        wrong(false, "stop\u0000;", 1, 4);
        wrong(false, "ifage>1:stop;", 1, 0);
        wrong(false, "stopz;", 1, 0);
        wrong(false, "astop;", 1, 0);
        wrong(false, "stop{;", 1, 4);
        wrong(false, "stop`;", 1, 4);
        wrong(false, "more 5/;", 1, 6);
        wrong(false, "more 0;more 9?;", 1, 13);
        wrong(false, "if age>x:stop;", 1, 7);
        wrong(false, "if age>:stop;", 1, 7);
        wrong(false, "if age>>1:stop;", 1, 7);
        wrong(false, "if age>1;stop;", 1, 8);
        wrong(false, "if age>1 and:stop;", 1, 12);
        wrong(false, "if age>1 or age<1:stop;", 1, 9);
        wrong(false, "if age>1:if age>1:stop;", 1, 9);
        wrong(false, "if:stop;", 1, 2);
        wrong(false, "if age>1:", 1, 9);
        wrong(false, "if age>1:;", 1, 9);
        wrong(false, "to 5;", 1, 0);
        wrong(false, "more to 5;", 1, 5);
        wrong(false, "more 5 6;", 1, 7);
        wrong(false, "more 5 to 6 to 7;", 1, 12);
        wrong(false, "more -5;", 1, 5);
        wrong(false, "and age>1:stop;", 1, 0);
        wrong(false, "more 5 too 6;", 1, 7);
        wrong(false, " ".repeat(500 - 5) + "stop ", 1, 500);
    }

    private static void otherFaults() {
        wrong(false, "more 5 to 4;", 2, 10);
        wrong(false, "less 9999 to 0000;", 2, 13);
        wrong(false, "stop;more 5 to 4;less 3 to 2;", 2, 15);
        wrong(false, "stop;".repeat(17), 3, 80);
        wrong(true, "open;".repeat(17), 3, 80);
        wrong(false, "stop;".repeat(16) + " if age>1:stop;stop;", 3, 81);
        wrong(true, "if near>1 and near>1 and near>1 and near>1 and near>1:sure;", 3, 47);
        wrong(true, "if near>1 and near>1 and near>1 and near>1 and not near>1:sure;", 3, 47);
        wrong(false, "more 5 to 4;if age>1 and age>1 and age>1 and age>1 and age>1:stop;", 2, 10);
        wrong(false, "if age>1 and age>1 and age>1 and age>1 and age>1:more 5 to 4;", 3, 43);
        wrong(false, "more 5 to 4;stop", 1, 16);
        wrong(false, "stop;".repeat(17) + "sto", 1, 85);
        wrong(false, "stop;".repeat(99) + "stop;", 3, 80);
        wrong(false, "stop;".repeat(16) + "more 2 to 1;", 3, 80);
        wrong(false, "stop;".repeat(15) + "more 2 to 1;stop;", 2, 85);
    }

    private static void faultsAreOfTheLatest() {
        StonesOfWeight x = new StonesOfWeight();
        Due.wear(x, "more 5 to 4;");
        Due.is("another what", x.fault(2), -1);
        Due.is("another what", x.fault(-1), -1);
        Due.proof(x, "sure;");
        Due.is("no FAULT now", x.fault(0), 0);
        Due.is("no place now", x.fault(1), -1);
        Due.wear(x, ";");
        Due.is("the FAULT now", x.fault(0), 1);
        Due.is("its place", x.fault(1), 0);
    }

    private static void oldTextStays() {
        StonesOfWeight x = Due.stones(1000);
        Due.wear(x, "more 100 to 200;");
        Due.wear(x, "less 100;more 5 to 4;");
        Due.is("the old LINES", x.count(5), 1);
        Due.is("the old SPAN", x.span(0, 0) == 1100 && x.span(0, 1) == 1200, true);
        Due.is("an empty text is a text", x.text(false), 0);
        Due.is("no LINES", x.count(5), 0);
        Due.is("no wear", x.span(0, 1), 1000);
    }
}
