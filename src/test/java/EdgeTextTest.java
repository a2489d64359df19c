/** Term 2 and promises 8 to 11 and 13: each sentence that names a boundary, with a test of its own. */
public final class EdgeTextTest {
    public static void main(String[] args) {
        atMost500Bytes();
        asLongAsTheyGo();
        bytesBetween();
        bytesAhead();
        bytesAsSigns();
        bytesInNumbers();
        oneToFourDigits();
        emptyText();
        formsOfALine();
        formsOfATest();
        age();
        allTestsHold();
        moreAndLess();
        stop();
        limitsOfBoth();
        cutTowardsZero();
        atLeastOne();
        places();
        firstOfGrammar();
        lessBehindTo();
        lines17();
        tests5();
        firstOfTheOthers();
        highestFirst();
        feedRefuses();
        endRefuses();
        takenAndEmpty();
        fromNowOn();
        faultOfTheLatest();
        spanRefuses();
        Due.finish("EdgeTextTest");
    }

    private static void sound(boolean proof, String text, int lines) {
        StonesOfWeight x = new StonesOfWeight();
        Due.is("text of " + text, proof ? Due.proof(x, text) : Due.wear(x, text), lines);
        Due.is("fault(0) of " + text, x.fault(0), 0);
        Due.is("fault(1) of " + text, x.fault(1), -1);
        Due.is("LINES of " + text, x.count(proof ? 6 : 5), lines);
    }

    private static void wrong(boolean proof, String text, int fault, int place) {
        StonesOfWeight x = new StonesOfWeight();
        Due.is("text of " + text, proof ? Due.proof(x, text) : Due.wear(x, text), -1);
        Due.is("fault(0) of " + text, x.fault(0), fault);
        Due.is("fault(1) of " + text, x.fault(1), place);
        Due.is("LINES behind " + text, x.count(proof ? 6 : 5), 0);
    }

    private static void spans(StonesOfWeight x, int stone, int low, int high) {
        Due.is("the least of " + stone, x.span(stone, 0), low);
        Due.is("the greatest of " + stone, x.span(stone, 1), high);
    }

    private static void atMost500Bytes() {
        Due.sentence("Term 2: THE TAPE has at most 500 bytes");
        sound(false, " ".repeat(495) + "stop;", 1);
        wrong(false, " ".repeat(496) + "stop", 1, 500);
        wrong(false, " ".repeat(499) + "%", 1, 499);
        wrong(false, " ".repeat(490) + "more 12345", 1, 495);
        sound(false, " ".repeat(500), 0);
        sound(false, "stop;" + " ".repeat(495), 1);
        wrong(false, "s".repeat(500), 1, 0);
        wrong(false, "1".repeat(500), 1, 0);
        wrong(false, "stop;".repeat(100), 3, 80);
        wrong(true, "if many=1" + " and many=1".repeat(44) + ":sure;", 3, 47);
    }

    private static void asLongAsTheyGo() {
        Due.sentence("Term 2: TOKENS, as long as they go");
        wrong(false, "stopstop;", 1, 0);
        wrong(false, "ifage>1:stop;", 1, 0);
        wrong(false, "if notage>1:stop;", 1, 3);
        wrong(false, "if age>1and age>1:stops;", 1, 18);
        wrong(false, "more 1toto 2;", 1, 6);
        wrong(false, "if age>=1:stop;", 1, 7);
        sound(false, "if age>1and age>1:stop;", 1);
        sound(false, "more1to2;", 1);
        StonesOfWeight x = Due.stones(1000);
        Due.wear(x, "more 12;");
        spans(x, 0, 1012, 1012);
    }

    private static void bytesBetween() {
        Due.sentence("Term 2: blanks (10, 32) between: WORDS, rows of letters a .. z");
        for (int b = 0; b < 256; b++) {
            String text = "stop" + (char) b + ";";
            if (b == 10 || b == 32) {
                sound(false, text, 1);
            } else if (b == ';') {
                wrong(false, text, 1, 5);
            } else {
                wrong(false, text, 1, b >= 'a' && b <= 'z' ? 0 : 4);
            }
        }
    }

    private static void bytesAhead() {
        Due.sentence("Term 2: 1 the first byte or token with which no text goes on (at the very start)");
        for (int b = 0; b < 256; b++) {
            String text = (char) b + "stop;";
            if (b == 10 || b == 32) {
                sound(false, text, 1);
            } else {
                wrong(false, text, 1, 0);
            }
        }
    }

    private static void bytesAsSigns() {
        Due.sentence("Term 2: signs : ; < > = one byte each (those of a TEST: '<' | '>' | '=')");
        for (int b = 0; b < 256; b++) {
            String text = "if age" + (char) b + "1:stop;";
            if (b == '<' || b == '>' || b == '=') {
                sound(false, text, 1);
            } else if (b == 10 || b == 32) {
                wrong(false, text, 1, 7);
            } else {
                wrong(false, text, 1, b >= 'a' && b <= 'z' ? 3 : 6);
            }
        }
    }

    private static void bytesInNumbers() {
        Due.sentence("Term 2: NUMBERS, 1 to 4 digits (no other byte goes into one)");
        for (int b = 0; b < 256; b++) {
            String text = "more 1" + (char) b + "2;";
            if (b >= '0' && b <= '9') {
                sound(false, text, 1);
            } else {
                wrong(false, text, 1, b == 10 || b == 32 || b == ';' ? 7 : 6);
            }
        }
    }

    private static void oneToFourDigits() {
        Due.sentence("Term 2: NUMBERS, 1 to 4 digits (a longer row of digits is no token)");
        wrong(false, "more ;", 1, 5);
        sound(false, "more 0;", 1);
        sound(false, "more 9999;", 1);
        sound(false, "more 0000 to 0001;", 1);
        wrong(false, "more 10000;", 1, 5);
        wrong(false, "more 00001;", 1, 5);
        wrong(false, "more 1 to 00002;", 1, 10);
        wrong(false, "if age>00001:stop;", 1, 7);
        wrong(false, "more 4294967297;", 1, 5);
        StonesOfWeight x = Due.stones(1000);
        Due.wear(x, "more 0010;");
        spans(x, 0, 1010, 1010);
    }

    private static void emptyText() {
        Due.sentence("Term 2: TEXT: {LINE} (none at all, too)");
        sound(false, "", 0);
        sound(true, "", 0);
        sound(false, "\n", 0);
        sound(true, " ", 0);
        wrong(false, ";", 1, 0);
        wrong(true, ";", 1, 0);
    }

    private static void formsOfALine() {
        Due.sentence("Term 2: LINE: ['if' TEST {'and' TEST} ':'] (('more' | 'less') NUMBER ['to' NUMBER] | 'stop') ';'");
        sound(false, "more 1;less 1;more 1 to 2;less 1 to 2;stop;", 5);
        sound(false, "if age>1:more 1;if age>1 and age>1:stop;", 2);
        wrong(false, "stop", 1, 4);
        wrong(false, "stop 1;", 1, 5);
        wrong(false, "stop to 1;", 1, 5);
        wrong(false, "more;", 1, 4);
        wrong(false, "more 1 to;", 1, 9);
        wrong(false, "more to 1;", 1, 5);
        wrong(false, "more 1 2;", 1, 7);
        wrong(false, "more 1 to 2 3;", 1, 12);
        wrong(false, "more 1:", 1, 6);
        wrong(false, "more less 1;", 1, 5);
        wrong(false, "if:stop;", 1, 2);
        wrong(false, "if age>1 stop;", 1, 9);
        wrong(false, "if age>1;", 1, 8);
        wrong(false, "if age>1::stop;", 1, 9);
        wrong(false, "if age>1 and:stop;", 1, 12);
        wrong(false, "if age>1 and and age>1:stop;", 1, 13);
        wrong(false, "if if age>1:stop;", 1, 3);
        wrong(false, "if age>1:if age>1:stop;", 1, 9);
        wrong(false, ":stop;", 1, 0);
    }

    private static void formsOfATest() {
        Due.sentence("Term 2: TEST: ['not'] ('stuff' | .. | 'age') ('<' | '>' | '=') NUMBER");
        String[] keys = {"stuff", "chips", "lead", "town", "mark", "owner", "age"};
        String[] others = {"many", "near", "mean", "chance", "tried", "place", "towns", "marks"};
        for (String key : keys) {
            sound(false, "if " + key + "<1 and not " + key + ">2:stop;", 1);
            wrong(true, "if " + key + "<1:sure;", 1, 3);
        }
        for (String key : others) {
            sound(true, "if " + key + "<1 and not " + key + ">2:sure;", 1);
            wrong(false, "if " + key + "<1:stop;", 1, 3);
        }
        wrong(false, "if weight>1:stop;", 1, 3);
        wrong(false, "if set=1:stop;", 1, 3);
        wrong(false, "if from<1:stop;", 1, 3);
        wrong(false, "if not:stop;", 1, 6);
        wrong(false, "if not not age>1:stop;", 1, 7);
        wrong(false, "if age not>1:stop;", 1, 7);
        wrong(false, "if 1<age:stop;", 1, 3);
        wrong(false, "if age<age:stop;", 1, 7);
        wrong(false, "if age:stop;", 1, 6);
        wrong(false, "if age<:stop;", 1, 7);
    }

    private static void age() {
        Due.sentence("Term 2: (age: 2000 less the FACT TO.)");
        StonesOfWeight x = Due.stones(1000, 1000, 1000);
        x.tell(1, 6, -3000);
        x.tell(2, 6, 0);
        int[] ages = {100, 5000, 2000};
        for (int s = 0; s < 3; s++) {
            Due.wear(x, "if age=" + ages[s] + ":more 100;");
            for (int other = 0; other < 3; other++) {
                Due.is("age " + ages[s] + " of " + other, x.span(other, 0), other == s ? 1100 : 1000);
            }
        }
        x.tell(2, 5, -100);
        Due.is("FROM is not asked", x.span(2, 0), 1100);
    }

    private static void allTestsHold() {
        Due.sentence("Term 2: LINE by LINE, if all its TESTS hold");
        StonesOfWeight x = Due.stones(1000);
        String[] tests = {"stuff=0", "chips<1", "not lead>0", "town=0"};
        String[] broken = {"not stuff=0", "chips<0", "lead>0", "town=1"};
        Due.wear(x, "if " + String.join(" and ", tests) + ":more 100;");
        spans(x, 0, 1100, 1100);
        for (int i = 0; i < 4; i++) {
            String[] one = tests.clone();
            one[i] = broken[i];
            Due.wear(x, "if " + String.join(" and ", one) + ":more 100;more 1;");
            spans(x, 0, 1001, 1001);
        }
    }

    private static void moreAndLess() {
        Due.sentence("Term 2: more a to b: LOW is a more, HIGH b; less a to b: LOW is b less, HIGH a (without to, b is a)");
        StonesOfWeight x = Due.stones(1000);
        spans(x, 0, 1000, 1000);
        Due.wear(x, "more 20 to 30;");
        spans(x, 0, 1020, 1030);
        Due.wear(x, "less 20 to 30;");
        spans(x, 0, 970, 980);
        Due.wear(x, "more 20;");
        spans(x, 0, 1020, 1020);
        Due.wear(x, "less 20;");
        spans(x, 0, 980, 980);
        Due.wear(x, "more 20 to 20;less 0 to 5;");
        spans(x, 0, 1015, 1020);
        Due.wear(x, "more 0;less 0;more 0 to 0;");
        spans(x, 0, 1000, 1000);
    }

    private static void stop() {
        Due.sentence("Term 2: stop: no further LINE");
        StonesOfWeight x = Due.stones(1000);
        Due.wear(x, "stop;more 100;");
        spans(x, 0, 1000, 1000);
        Due.wear(x, "more 10;stop;more 100;stop;more 100;");
        spans(x, 0, 1010, 1010);
        Due.wear(x, "if chips>0:stop;more 100;");
        spans(x, 0, 1100, 1100);
        x.tell(0, 2, 1);
        spans(x, 0, 1000, 1000);
        Due.wear(x, "more 10;".repeat(15) + "stop;");
        spans(x, 0, 1150, 1150);
    }

    private static void limitsOfBoth() {
        Due.sentence("Term 2: Both, at least -500, at most 1000 then, are thousandths of BASE, WEIGHT less LEAD");
        StonesOfWeight x = Due.stones(2000);
        x.tell(0, 3, 1000);
        String[] texts = {"less 499;", "less 500;", "less 501;", "less 9999;", "less 400 to 600;", "more 999;",
            "more 1000;", "more 1001;", "more 9999;", "more 900 to 1100;", "more 600;more 600;", "less 300;less 300;",
            "more 9999;less 9999;", "less 9999;more 9999;", "more 1500;less 600;", "less 700;more 300;",
            "more 0 to 9999;less 500 to 900;"};
        int[][] due = {{501, 501}, {500, 500}, {500, 500}, {500, 500}, {500, 600}, {1999, 1999},
            {2000, 2000}, {2000, 2000}, {2000, 2000}, {1900, 2000}, {2000, 2000}, {500, 500},
            {1000, 1000}, {1000, 1000}, {1900, 1900}, {600, 600}, {500, 2000}};
        for (int i = 0; i < texts.length; i++) {
            Due.is("LINES of " + texts[i], Due.wear(x, texts[i]) > 0, true);
            spans(x, 0, due[i][0], due[i][1]);
        }
        Due.wear(x, "more 9999;".repeat(16));
        spans(x, 0, 2000, 2000);
        Due.wear(x, "less 9999;".repeat(16));
        spans(x, 0, 500, 500);
    }

    private static void cutTowardsZero() {
        Due.sentence("Term 2: BASE + BASE * LOW / 1000 .., each cut towards 0 behind the sign of division");
        StonesOfWeight x = Due.stones(999, 1000, 1001, 1999, 30000, 1);
        Due.wear(x, "less 1;");
        int[] less = {999, 999, 1000, 1998, 29970, 1};
        for (int s = 0; s < 6; s++) {
            spans(x, s, less[s], less[s]);
        }
        Due.wear(x, "more 1;");
        int[] more = {999, 1001, 1002, 2000, 30030, 1};
        for (int s = 0; s < 6; s++) {
            spans(x, s, more[s], more[s]);
        }
        Due.wear(x, "more 1000;");
        spans(x, 4, 60000, 60000);
        Due.wear(x, "less 999;more 499;");
        // -500 of 999 is -499.5, cut -499; of 1 it is 0.
        spans(x, 0, 500, 500);
        spans(x, 5, 1, 1);
    }

    private static void atLeastOne() {
        Due.sentence("Term 2: at least 1");
        StonesOfWeight x = Due.stones(1, 2, 3, 2);
        x.tell(3, 3, 1);
        Due.wear(x, "less 500;");
        spans(x, 0, 1, 1);
        spans(x, 1, 1, 1);
        spans(x, 2, 2, 2);
        spans(x, 3, 1, 1);
    }

    private static void places() {
        Due.sentence("Term 2: with places (a token's first byte; the end's)");
        wrong(false, "mor 5;", 1, 0);
        wrong(false, "  mor 5;", 1, 2);
        wrong(false, "more  \n five;", 1, 8);
        wrong(false, "more", 1, 4);
        wrong(false, "more ", 1, 5);
        wrong(false, "more 5 \n ", 1, 9);
        wrong(false, "if", 1, 2);
        wrong(false, "if age", 1, 6);
        wrong(false, "if age<", 1, 7);
        wrong(false, "if age<5", 1, 8);
        wrong(false, "if age<5:", 1, 9);
        wrong(false, "if not", 1, 6);
        wrong(false, "if age<5 and", 1, 12);
        wrong(false, "more 5 to", 1, 9);
        wrong(false, "more 5 to 6", 1, 11);
        wrong(true, "sure", 1, 4);
    }

    private static void firstOfGrammar() {
        Due.sentence("Term 2: 1 the first byte or token with which no text goes on");
        wrong(false, "if age>1 stop; %", 1, 9);
        wrong(false, "if x:stop;if y:stop;", 1, 3);
        wrong(false, "if age stop;%", 1, 7);
        wrong(false, "if stop;%", 1, 3);
        wrong(false, "if age>stop;more x;", 1, 7);
        wrong(false, "more stop;more x;", 1, 5);
        wrong(false, "more 1 to stop;more x;", 1, 10);
        wrong(false, "stop more 1;more x;", 1, 5);
        wrong(false, "stop stop; %", 1, 5);
        wrong(false, "more x;more 12345;", 1, 5);
        wrong(false, "more 12345;more x;", 1, 5);
        wrong(false, "stop;stop%;stop", 1, 9);
        wrong(false, "sure;stop", 1, 0);
        wrong(true, "sure stop;%", 1, 5);
        wrong(true, "if near>1 sure;if;", 1, 10);
    }

    private static void lessBehindTo() {
        Due.sentence("Term 2: 2 a NUMBER behind to that is less than the one ahead of it");
        sound(false, "more 5 to 5;less 5 to 5;", 2);
        sound(false, "more 5 to 6;less 0 to 9999;", 2);
        sound(false, "more 9 to 0010;", 1);
        wrong(false, "more 5 to 4;", 2, 10);
        wrong(false, "less 5 to 4;", 2, 10);
        wrong(false, "more 9999 to 0;", 2, 13);
        wrong(false, "more 10 to 9;", 2, 11);
        wrong(false, "if age>1:more 5 to   4;", 2, 21);
        wrong(false, "more 5 to 4;more 3 to 2;", 2, 10);
    }

    private static void lines17() {
        Due.sentence("Term 2: 3 one too many, at its first token: a 17th LINE");
        sound(false, "stop;".repeat(16), 16);
        sound(true, "open;".repeat(16), 16);
        wrong(false, "stop;".repeat(17), 3, 80);
        wrong(true, "open;".repeat(17), 3, 80);
        wrong(false, "stop;".repeat(16) + "  if age>1:stop;", 3, 82);
        wrong(false, "stop;".repeat(18), 3, 80);
        sound(false, "stop;".repeat(16) + " \n", 16);
    }

    private static void tests5() {
        Due.sentence("Term 2: 3 one too many, at its first token: .. a 5th TEST of a LINE");
        sound(false, "if age>1 and age>1 and age>1 and age>1:stop;", 1);
        sound(false, "if age>1 and age>1 and age>1:stop;if age>1 and age>1 and age>1:stop;", 2);
        wrong(false, "if age>1 and age>1 and age>1 and age>1 and age>1:stop;", 3, 43);
        wrong(false, "if age>1 and age>1 and age>1 and age>1 and  not age>1:stop;", 3, 44);
        wrong(true, "if many>1 and many>1 and many>1 and many>1 and many>1 and many>1:sure;", 3, 47);
        wrong(false, "stop;if age>1 and age>1 and age>1 and age>1 and age>1:stop;", 3, 48);
        // On the 16th LINE, the last one that there is room for, and on one beyond it.
        wrong(false, "stop;".repeat(15) + "if age>1 and age>1 and age>1 and age>1 and age>1:stop;", 3, 118);
        wrong(true, "sure;".repeat(15) + "if many>1 and many>1 and many>1 and many>1 and not many>1:sure;", 3, 122);
        wrong(false, "stop;".repeat(16) + "if age>1 and age>1 and age>1 and age>1 and age>1:stop;", 3, 80);
        sound(false, "stop;".repeat(15) + "if age>1 and age>1 and age>1 and age>1:stop;", 16);
        // As many as the tape can have.
        wrong(false, "if age>1" + "and age>1".repeat(54) + ":stop;", 3, 39);
        wrong(false, "stop;".repeat(15) + "if age>1" + "and age>1".repeat(45) + ":stop;", 3, 114);
        wrong(true, "sure;".repeat(100), 3, 80);
    }

    private static void firstOfTheOthers() {
        Due.sentence("Term 2: If there is none, the first of: 2 .. 3 ..");
        wrong(false, "more 5 to 4;" + "stop;".repeat(17), 2, 10);
        wrong(false, "stop;".repeat(16) + "more 5 to 4;", 3, 80);
        wrong(false, "stop;".repeat(15) + "more 5 to 4;stop;", 2, 85);
        wrong(false, "if age>1 and age>1 and age>1 and age>1 and age>1:more 5 to 4;", 3, 43);
        wrong(false, "more 5 to 4;if age>1 and age>1 and age>1 and age>1 and age>1:stop;", 2, 10);
        wrong(false, "more 5 to 4;stop", 1, 16);
        wrong(false, "stop;".repeat(17) + "%", 1, 85);
        wrong(false, "if age>1 and age>1 and age>1 and age>1 and age>1:sure;", 1, 49);
        wrong(false, "more 5 to 4", 1, 11);
    }

    private static void highestFirst() {
        Due.sentence("Promise 8: twenty bytes come behind it, of each number the highest first");
        StonesOfWeight x = new StonesOfWeight();
        // "stop" ";if " "age>" "1:st" "op; "
        Due.is("feed", x.feed(0x73746f70, 0x3b696620, 0x6167653e, 0x313a7374, 0x6f703b20), 20);
        Due.is("two LINES", x.text(false), 2);
        // Bytes above 127 make numbers below 0; they are no tokens, each at its own place.
        for (int i = 0; i < 20; i++) {
            int[] n = {0x20202020, 0x20202020, 0x20202020, 0x20202020, 0x20202020};
            n[i / 4] |= 0xff << 24 - i % 4 * 8;
            x.feed(n[0], n[1], n[2], n[3], n[4]);
            Due.is("a byte 255 at " + i, x.text(false), -1);
            Due.is("its place", x.fault(1), i);
        }
    }

    private static void feedRefuses() {
        Due.sentence("Promise 8: NONE, and nothing comes, if there would be more than 500");
        StonesOfWeight x = new StonesOfWeight();
        for (int n = 20; n <= 500; n += 20) {
            Due.is("feed", x.feed(0x20202020, 0x20202020, 0x20202020, 0x20202020, 0x20202020), n);
        }
        Due.is("501 and more", x.feed(-1, -1, -1, -1, -1), -1);
        Due.is("500 still", x.end(500), 500);
        Due.is("481", x.end(481), 481);
        Due.is("501", x.feed(-1, -1, -1, -1, -1), -1);
        Due.is("481 still", x.end(482), -1);
        Due.is("480", x.end(480), 480);
        Due.is("500", x.feed(0x20202020, 0x20202020, 0x20202020, 0x20202020, 0x20202020), 500);
        Due.is("what was refused did not come", x.text(false), 0);
        Due.is("the tape is empty then", x.feed(0, 0, 0, 0, 0), 20);
    }

    private static void endRefuses() {
        Due.sentence("Promise 9: NONE if it has not so many, or n is below 0");
        StonesOfWeight x = new StonesOfWeight();
        Due.is("0 of none", x.end(0), 0);
        Due.is("1 of none", x.end(1), -1);
        Due.is("-1 of none", x.end(-1), -1);
        x.feed(0x73746f70, 0x3b20203b, 0, 0, 0);
        int[] wrong = {21, 500, -1, Integer.MIN_VALUE, Integer.MAX_VALUE};
        for (int n : wrong) {
            Due.is("end(" + n + ") of 20", x.end(n), -1);
        }
        Due.is("all of them", x.end(20), 20);
        Due.is("the first 7", x.end(7), 7);
        Due.is("the eighth is gone", x.end(8), -1);
        Due.is("they are a text", x.text(false), 1);
    }

    private static void takenAndEmpty() {
        Due.sentence("Promise 10: The tape is taken (and is empty then) .. NONE: a FAULT");
        StonesOfWeight x = new StonesOfWeight();
        Due.is("an empty tape", x.text(false), 0);
        Due.is("a text", Due.wear(x, "stop;"), 1);
        Due.is("empty then", x.end(1), -1);
        Due.is("a FAULT", Due.wear(x, "stop"), -1);
        Due.is("empty then, too", x.end(1), -1);
        Due.is("what comes then is alone on it", x.feed(0x73746f70, 0x3b202020, 0x20202020, 0x20202020, 0x20202020), 20);
        Due.is("what comes then is alone on it", x.text(false), 1);
    }

    private static void fromNowOn() {
        Due.sentence("Promise 10: as WEAR (proof false) or PROOF from now on: how many LINES");
        StonesOfWeight x = Due.stones(1000);
        Due.wear(x, "more 100;");
        Due.proof(x, "against;sure;");
        Due.is("WEAR", x.span(0, 0), 1100);
        Due.is("PROOF", x.verdict(50, 50, 50), 3);
        Due.wear(x, "stop");
        Due.proof(x, "sure");
        Due.is("with a FAULT, WEAR as it was", x.span(0, 0), 1100);
        Due.is("with a FAULT, PROOF as it was", x.verdict(50, 50, 50), 3);
        Due.is("LINES of both", x.count(5) * 10 + x.count(6), 12);
        x.text(false);
        Due.is("an empty WEAR", x.span(0, 0), 1000);
        Due.is("PROOF is another text", x.count(6), 2);
        x.text(true);
        Due.is("an empty PROOF", x.verdict(50, 50, 50), 2);
        Due.is("no LINES", x.count(5) + x.count(6), 0);
    }

    private static void faultOfTheLatest() {
        Due.sentence("Promise 11: Of the latest text(), what 0: the FAULT, 0 without, 1: its place, NONE without");
        StonesOfWeight x = new StonesOfWeight();
        Due.is("ahead of any text", x.fault(0), 0);
        Due.is("ahead of any text", x.fault(1), -1);
        Due.wear(x, "more 5 to 4;");
        Due.is("the FAULT", x.fault(0), 2);
        Due.is("its place", x.fault(1), 10);
        int[] wrong = {-1, 2, Integer.MIN_VALUE, Integer.MAX_VALUE};
        for (int what : wrong) {
            Due.is("fault(" + what + ")", x.fault(what), -1);
        }
        Due.tape(x, "stop");
        Due.is("text() alone makes another", x.fault(0), 2);
        x.text(true);
        Due.is("of PROOF", x.fault(0), 1);
        Due.is("place 0 is a place", x.fault(1), 0);
        x.text(false);
        Due.is("without", x.fault(0), 0);
        Due.is("without", x.fault(1), -1);
    }

    private static void spanRefuses() {
        Due.sentence("Promise 13: NONE: there is none such, or for another what");
        StonesOfWeight x = new StonesOfWeight();
        Due.is("no STONES at all", x.span(0, 0), -1);
        x.stone(100, 0, 0);
        x.tell(0, 9, 0);
        Due.is("the least of one that is OUT", x.span(0, 0), 100);
        Due.is("the greatest of it", x.span(0, 1), 100);
        Due.is("it is not CHOSEN", x.span(0, 2), 0);
        int[] wrong = {-1, 3, Integer.MIN_VALUE, Integer.MAX_VALUE};
        for (int what : wrong) {
            Due.is("span(0, " + what + ")", x.span(0, what), -1);
        }
        int[] numbers = {-1, 1, 32, Integer.MIN_VALUE, Integer.MAX_VALUE};
        for (int stone : numbers) {
            Due.is("span(" + stone + ", 2)", x.span(stone, 2), -1);
        }
    }
}
