/** What the tests of the project share: answers held against those that are due, and texts put on the tape. */
final class Due {
    private static int wrong = 0;
    private static int asked = 0;
    private static int sentences = 0;
    private static String sentence = "";

    private Due() {
    }

    /** The document's own words that the next answers are about; a wrong answer tells them. */
    static void sentence(String words) {
        sentences++;
        sentence = "[" + words + "] ";
    }

    static void is(String call, long got, long want) {
        asked++;
        if (got != want) {
            wrong++;
            System.out.println(sentence + call + " answered " + got + ", due is " + want);
        }
    }

    static void is(String call, boolean got, boolean want) {
        is(call, got ? 1 : 0, want ? 1 : 0);
    }

    /** Puts a text alone on the tape. */
    static void tape(StonesOfWeight x, String text) {
        x.end(0);
        for (int at = 0; at < text.length(); at += 20) {
            int[] numbers = new int[5];
            for (int i = 0; i < 20; i++) {
                int b = at + i < text.length() ? text.charAt(at + i) & 255 : ' ';
                numbers[i / 4] = numbers[i / 4] << 8 | b;
            }
            x.feed(numbers[0], numbers[1], numbers[2], numbers[3], numbers[4]);
        }
        is("end(" + text.length() + ") of a text", x.end(text.length()), text.length());
    }

    static int wear(StonesOfWeight x, String text) {
        tape(x, text);
        return x.text(false);
    }

    static int proof(StonesOfWeight x, String text) {
        tape(x, text);
        return x.text(true);
    }

    /** Lists stones of stuff 0 in town 0, one for each weight. */
    static StonesOfWeight stones(int... weights) {
        StonesOfWeight x = new StonesOfWeight();
        for (int weight : weights) {
            x.stone(weight, 0, 0);
        }
        return x;
    }

    static void finish(String name) {
        String about = sentences > 0 ? " on " + sentences + " sentences" : "";
        System.out.println(name + ": " + asked + " answers" + about + ", " + wrong + " not as due");
        if (wrong != 0 || asked == 0) {
            System.exit(1);
        }
    }
}
