import java.nio.file.Files;
import java.nio.file.Path;

/** The run that README.md shows: each call stands there word for word, and answers what is said beside it. */
public final class ReadmeTest {
    private static String readme = "";

    public static void main(String[] args) throws Exception {
        readme = Files.readString(Path.of("README.md"));
        StonesOfWeight x = new StonesOfWeight();
        int a = x.stone(100, 0, 0);
        shown("int a = x.stone(100, 0, 0); // WEIGHT, STUFF, TOWN: 0", a, 0);
        int b = x.stone(148, 1, 0);
        shown("int b = x.stone(148, 1, 0);", b, 1);
        shown("x.tell(b, 2, 3);", x.tell(b, 2, 3) ? 1 : 0, 1);
        shown("x.feed(0x69662063, 0x68697073, 0x3e313a6d, 0x6f726520, 0x31302074);",
                x.feed(0x69662063, 0x68697073, 0x3e313a6d, 0x6f726520, 0x31302074), 20);
        shown("x.feed(0x6f203430, 0x3b202020, 0x20202020, 0x20202020, 0x20202020);",
                x.feed(0x6f203430, 0x3b202020, 0x20202020, 0x20202020, 0x20202020), 40);
        shown("x.end(25);", x.end(25), 25);
        shown("x.text(false); // 1 LINE", x.text(false), 1);
        shown("x.span(b, 0); // 149", x.span(b, 0), 149);
        shown("x.span(b, 1); // 153", x.span(b, 1), 153);
        shown("x.best(40, 60); // 50", x.best(40, 60), 50);
        // By 50, 13 of 50 places are near for stone 0 and 17 for stone 1, and both stones are near.
        shown("x.chance(50);", x.chance(50), 1000000000L * 13 / 50 * 17 / 50);
        shown("x.view(0);", x.view(0) ? 1 : 0, 1);
        shown("x.image(0);", x.image(0) ? 1 : 0, 1);
        shown("x.again(0);", x.again(0) ? 1 : 0, 1);
        Due.finish("ReadmeTest");
    }

    private static void shown(String statement, long got, long want) {
        Due.is("README.md has " + statement, readme.replaceAll(" +", " ").contains(statement), true);
        Due.is(statement, got, want);
    }
}
