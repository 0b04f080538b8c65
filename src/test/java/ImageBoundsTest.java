import java.util.List;

/** Promises 31 to 33: each bound of count, image and back, just within and just beyond. */
public final class ImageBoundsTest {
    private static final String LAND = "duchy 10 1 5;house 60 9 3;house 6 0 0;lane 0 1;lane 1 0;hat 0 9;officer 0 99;snow 2;snow 4";

    public static void main(String[] args) {
        Due due = new Due("ImageBoundsTest");
        countWhat(due);
        countOfNothing(due);
        fourImages(due);
        neverMade(due);
        withoutADuchy(due);
        rulesAndTapeStay(due);
        asItWas(due);
        tenBooks(due);
        due.end();
    }

    /** What 0 to 15; NONE for others. */
    private static void countWhat(Due due) {
        FireTax x = Due.land(LAND, "call 1", "call 2");
        x.force(1);
        x.night();
        x.night();
        x.spit(0);
        x.book(0, 0, 0);
        x.seed(1234567);
        x.feed(0, 0, 0, 0, 0);
        x.feed(0, 0, 0, 0, 0);
        x.end(33);
        int[] counts = {10, 1, 5, 2, 1, 1, 2, 1, 2, 2, 6 + 5, 1, 1, 3, 1234567, 33};
        Edge what = new Edge(due, "count", x::count).refuses(0, 15, -1);
        for (int i = 0; i < counts.length; i++) {
            what.answers(i, counts[i]);
        }
    }

    /** A new object, and a duchy of nothing: 0 but for the RULE IN FORCE. */
    private static void countOfNothing(Due due) {
        for (FireTax x : new FireTax[] {new FireTax(), Due.land("duchy 0 0 0")}) {
            Edge what = new Edge(due, "count", x::count).refuses(0, 15, -1);
            for (int i = 0; i <= 15; i++) {
                what.answers(i, i == 7 ? -1 : 0);
            }
        }
    }

    /** IMAGES 0 to 3, each of its own: the NIGHT; NONE without it. */
    private static void fourImages(Due due) {
        FireTax x = Due.land(LAND, "call 1");
        for (int k = 0; k < 4; k++) {
            due.is("image " + k, x.image(k), k);
            x.night();
        }
        new Edge(due, "image", x::image).refuses(0, 3, -1);
        new Edge(due, "back", x::back).refuses(0, 3, -1).answers(3, 3).answers(0, 0).answers(2, 2).answers(1, 1);
        due.is("the night", x.count(8), 1);
        due.is("image 0 anew", x.image(0), 1);
        due.is("the others are as they were", x.back(3), 3);
        due.is("and the new one", x.back(0), 1);
    }

    /** NONE, and nothing happens, if it was never made. */
    private static void neverMade(Due due) {
        for (int made = 0; made < 4; made++) {
            FireTax x = Due.land(LAND, "call 1");
            x.image(made);
            x.night();
            List<Integer> before = Picture.now(x);
            for (int k = 0; k < 4; k++) {
                due.is("back to " + k + ", made " + made, k == made ? -1 : x.back(k), -1);
            }
            due.is("nothing happened", Picture.parting(before, Picture.now(x)), -1);
            due.is("back", x.back(made), 0);
        }
    }

    private static void withoutADuchy(Due due) {
        FireTax x = new FireTax();
        x.seed(5);
        List<Integer> before = Picture.now(x);
        due.is("an image of none", x.image(3), 0);
        x.seed(6);
        due.is("a duchy", Due.duchy(x, LAND), 2);
        x.night();
        due.is("back", x.back(3), 0);
        due.is("as it was", Picture.parting(before, Picture.now(x)), -1);
        due.is("no duchy", x.night(), -1);
        due.is("nor is it asked", x.ahead(0, 0, 2), -2);
    }

    /** All but the RULES and the TAPE (these stay): a rule that came since is there, and was not in force. */
    private static void rulesAndTapeStay(Due due) {
        FireTax x = new FireTax();
        x.image(0);
        for (int r = 0; r < 6; r++) {
            Due.rule(x, "call " + r);
        }
        x.force(5);
        x.image(1);
        x.feed(1, 2, 3, 4, 5);
        due.is("back", x.back(0), 0);
        due.is("six rules", x.count(6), 6);
        due.is("none in force", x.count(7), -1);
        due.is("the tape", x.count(15), 20);
        due.is("no seventh", x.rule(), -1);
        due.is("back to the last", x.back(1), 0);
        due.is("the last in force", x.count(7), 5);
        due.is("the tape still", x.count(15), 20);
    }

    /** Gone back to, it is as it was, what can be UNDONE too: all twenty, though others came since. */
    private static void asItWas(Due due) {
        due.is("as it was", Picture.parting(Picture.all(() -> changedAndBack(due)), Picture.all(ImageBoundsTest::made)), -1);
    }

    private static FireTax changedAndBack(Due due) {
        FireTax x = made();
        for (int i = 0; i < 30; i++) {
            x.fell(1, 1);
            x.book(-1, 0, 0);
        }
        x.force(-1);
        x.seed(9);
        due.is("another", Due.duchy(x, "duchy 1 1 1;house 1 1 1;officer 0 1;snow 0"), 1);
        x.night();
        due.is("back", x.back(2), 25);
        return x;
    }

    /** Each of ten books is in the image, though ten others came since. */
    private static void tenBooks(Due due) {
        for (int wrong = -1; wrong < 10; wrong++) {
            FireTax x = Due.land("duchy 0 1 0;house 99 0 0;house 98 0 0");
            for (int b = 0; b < 10; b++) {
                x.book(5 * b, b % 2, 98 - b % 2 - 5 * b + (b == wrong ? 1 : 0));
            }
            x.image(0);
            x.book(-1, 0, 0);
            for (int b = 0; b < 10; b++) {
                x.book(5 * b + 1, (b + 1) % 2, 97 - (b + 1) % 2 - 5 * b + (wrong < 0 ? 1 : 0));
            }
            due.is("others", x.ruled(0), wrong < 0 ? 0 : 1);
            x.image(1);
            due.is("back", x.back(0), 0);
            due.is("ten books", x.count(12), 10);
            due.is("so they are but " + wrong, x.ruled(0), wrong < 0 ? 1 : 0);
            due.is("and the others", x.back(1), 0);
            due.is("as before", x.ruled(0), wrong < 0 ? 0 : 1);
        }
    }

    private static FireTax made() {
        FireTax x = Due.land(LAND, "call 1", "call since");
        x.force(1);
        x.seed(8);
        for (int i = 0; i < 25; i++) {
            x.night();
            x.book(2 * i, i % 2, i);
        }
        x.image(2);
        return x;
    }
}
