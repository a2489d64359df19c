/** Promises 29 to 31: count, image, again. */
public final class ImageTest {
    public static void main(String[] args) {
        count();
        wrongImages();
        allComesBack();
        fullImage();
        imagesAreApart();
        Due.finish("ImageTest");
    }

    private static void count() {
        StonesOfWeight x = new StonesOfWeight();
        x.stone(100, 0, 0);
        x.stone(100, 0, 5);
        x.stone(100, 1, 5);
        x.day(6);
        x.stone(100, 2, 3);
        x.tell(2, 9, 0);
        Due.wear(x, "more 1;stop;");
        Due.proof(x, "sure;open;against;");
        int[] now = {4, 3, 5, 6, -1, 2, 3, -1, -1, -1, 1, 0, 0, 1, 0, 1, -1};
        for (int what = 0; what < now.length; what++) {
            Due.is("count(" + what + ")", x.count(what), now[what]);
        }
        x.view(5);
        int[] then = {3, 3, 5, 6, 5, 2, 3, -1, -1, -1, 1, 0, 0, 0, 0, 2, -1};
        for (int what = 0; what < then.length; what++) {
            Due.is("count(" + what + ") by an earlier VIEW", x.count(what), then[what]);
        }
        x.choose(63, 1, -3000, 1900, 0);
        Due.is("count(1) of others CHOSEN", x.count(1), 2);
        Due.is("count(15) of others CHOSEN", x.count(15), 1);
        Due.is("another what", x.count(-1), -1);
        Due.is("another what", x.count(Integer.MAX_VALUE), -1);
        Due.is("another what", x.count(Integer.MIN_VALUE), -1);
    }

    private static void wrongImages() {
        StonesOfWeight x = new StonesOfWeight();
        int[] wrong = {-1, 3, Integer.MIN_VALUE, Integer.MAX_VALUE};
        for (int k : wrong) {
            Due.is("image(" + k + ")", x.image(k), false);
            Due.is("again(" + k + ")", x.again(k), false);
        }
        for (int k = 0; k < 3; k++) {
            Due.is("again(" + k + ") ahead of image(" + k + ")", x.again(k), false);
            Due.is("image(" + k + ")", x.image(k), true);
            Due.is("again(" + k + ")", x.again(k), true);
        }
    }

    /** A state told, kept, changed in all its parts, and had again. */
    private static void allComesBack() {
        StonesOfWeight x = new StonesOfWeight();
        x.stone(1000, 1, 2);
        x.stone(500, 1, 3);
        x.day(3);
        x.tell(0, 0, 1010);
        x.view(2);
        Due.wear(x, "more 100;");
        Due.proof(x, "likely;");
        Due.wear(x, "more 5 to 4;");
        Due.tape(x, "stop;less 5");
        x.choose(1 << 3, 31, -3000, 1900, 0);
        x.image(1);
        for (int round = 0; round < 2; round++) {
            spoil(x);
            Due.is("again(1)", x.again(1), true);
            Due.is("tape", x.end(12), -1);
            Due.is("tape", x.end(11), 11);
            Due.is("FAULT", x.fault(0), 2);
            Due.is("its place", x.fault(1), 10);
            Due.is("WEAR", x.span(0, 0), 1100);
            Due.is("LINES of WEAR", x.count(5), 1);
            Due.is("LINES of PROOF", x.count(6), 1);
            Due.is("PROOF", x.verdict(50, 40, 60), 1);
            Due.is("VIEW", x.count(4), 2);
            Due.is("DAY", x.count(3), 3);
            Due.is("CHOICE", x.span(0, 2) == 0 && x.span(1, 2) == 1, true);
            Due.is("STONES", x.count(0), 2);
            Due.is("ENTRIES", x.count(2), 3);
            Due.is("an ENTRY", x.entry(2, 3), 1010);
            Due.is("no further ENTRY", x.entry(3, 3), -100000);
            Due.is("FACTS by the VIEW", x.fact(0, 0), 1000);
            x.view(-1);
            Due.is("FACTS NOW", x.fact(0, 0), 1010);
            Due.is("FACTS NOW judge", x.tell(0, 3, 1009), true);
            Due.is("FACTS NOW judge", x.tell(1, 3, 500), false);
            Due.is("the next STONE", x.stone(7, 0, 0), 2);
            Due.is("the tape's bytes", x.end(5) == 5 && x.text(false) == 1, true);
        }
    }

    private static void spoil(StonesOfWeight x) {
        x.view(-1);
        x.day(9);
        x.tell(0, 3, 0);
        x.tell(0, 0, 77);
        x.tell(1, 4, 0);
        x.stone(30, 0, 0);
        x.stone(40, 4, 4);
        Due.wear(x, "stop;stop;stop;");
        Due.proof(x, "if many>0:against;sure;");
        Due.tape(x, "xxxxxxxxxxxxxxxxxxxxxxxxx");
        x.choose(1, 1, 0, 0, 2);
    }

    private static void fullImage() {
        StonesOfWeight x = new StonesOfWeight();
        for (int s = 0; s < 32; s++) {
            x.stone(100 + s, s % 5, s % 6);
            x.tell(s, 10, s % 9);
        }
        StringBuilder text = new StringBuilder();
        for (int line = 0; line < 16; line++) {
            text.append("if not town=").append(line % 6).append(":more ").append(line).append(";");
        }
        Due.wear(x, text.toString());
        int[][] spans = new int[32][2];
        for (int s = 0; s < 32; s++) {
            spans[s][0] = x.span(s, 0);
            spans[s][1] = x.span(s, 1);
        }
        x.image(2);
        for (int s = 0; s < 32; s++) {
            x.tell(s, 0, 7000 + s);
            x.tell(s, 10, 1);
            x.tell(s, 1, 1);
        }
        Due.wear(x, "if chips>3 and mark>3 and owner>3 and age>9:less 7 to 8;".repeat(8));
        x.again(2);
        for (int s = 0; s < 32; s++) {
            Due.is("WEIGHT of " + s, x.fact(s, 0), 100 + s);
            Due.is("STUFF of " + s, x.fact(s, 1), s % 5);
            Due.is("SET of " + s, x.fact(s, 10), s % 9);
            Due.is("SPAN of " + s, x.span(s, 0) == spans[s][0] && x.span(s, 1) == spans[s][1], true);
            Due.is("LEAD of " + s + " is judged by its WEIGHT", x.tell(s, 3, 100 + s), false);
        }
        x.view(0);
        Due.is("STUFF as it was listed", x.fact(31, 1), 1);
        Due.is("TOWN as it was listed", x.fact(31, 4), 1);
        Due.is("the last ENTRY", x.entry(63, 3), 4);
    }

    private static void imagesAreApart() {
        StonesOfWeight x = Due.stones(100);
        x.image(0);
        x.tell(0, 0, 200);
        x.image(1);
        x.tell(0, 0, 300);
        x.image(2);
        int[] order = {1, 0, 2, 0, 1};
        for (int k : order) {
            Due.is("again(" + k + ")", x.again(k), true);
            Due.is("WEIGHT of image " + k, x.fact(0, 0), 100 * (k + 1));
        }
        x.tell(0, 0, 400);
        Due.is("image 1 anew", x.image(1), true);
        x.again(2);
        x.again(1);
        Due.is("WEIGHT of the new image 1", x.fact(0, 0), 400);
        x.again(0);
        Due.is("DAY may be told later than in the image", x.day(5), true);
        x.again(0);
        Due.is("and goes back with it", x.count(3), 0);
        Due.is("all objects have their own", new StonesOfWeight().again(0), false);
    }
}
