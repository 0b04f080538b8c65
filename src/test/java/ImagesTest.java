/** Promises 31, 32 and 33: count, image, back. */
public final class ImagesTest {
    private static final String LAND = "duchy 10 2 9;house 50 3 4;house 9 0 0;lane 0 1;lane 1 0;hat 0 5;officer 0 99;snow 1";

    public static void main(String[] args) {
        Due due = new Due("ImagesTest");
        counts(due);
        goneBackTo(due);
        booksAndActs(due);
        rulesAndTapeStay(due);
        undoneBehindBack(due);
        madeAnew(due);
        withoutDuchy(due);
        wrong(due);
        due.end();
    }

    private static void all(Due due, String when, FireTax x, int... counts) {
        for (int what = 0; what < counts.length; what++) {
            due.is(when + ": count " + what, x.count(what), counts[what]);
        }
    }

    private static void counts(Due due) {
        FireTax x = Due.land(LAND, "call 1 if house=0", "call 1");
        all(due, "at first", x, 10, 2, 9, 2, 1, 1, 2, 0, 0, 0, 0, 0, 0, 0, 0, 0);
        x.night();
        x.spit(0);
        x.book(3, 1, 4);
        x.seed(123456);
        x.force(1);
        x.feed(1, 2, 3, 4, 5);
        all(due, "then", x, 10, 2, 9, 2, 1, 1, 2, 1, 1, 2, 5, 1, 1, 2, 123456, 20);
        for (int far : new int[] {-1, 16, Integer.MIN_VALUE, Integer.MAX_VALUE}) {
            due.is("count " + far, x.count(far), -1);
        }
    }

    private static void goneBackTo(Due due) {
        FireTax x = Due.land(LAND, "call 1 if house=0", "call 1");
        x.night();
        x.book(3, 1, 4);
        x.seed(9);
        due.is("image", x.image(3), 1);
        x.night();
        x.spit(0);
        x.fell(0, 1);
        x.lend(0, 1, 5);
        x.hide(0, 5);
        x.book(4, 1, 4);
        x.seed(10);
        x.force(-1);
        due.is("another image", x.image(0), 2);
        due.is("another duchy", Due.duchy(x, "duchy 1 1 1;house 7 7 7"), 1);
        due.is("back", x.back(3), 1);
        all(due, "back", x, 10, 2, 9, 2, 1, 1, 2, 0, 1, 2, 0, 1, 1, 1, 9, 0);
        int[] house = {47, 2, 4, 5, 0, 2, 0};
        for (int what = 0; what < house.length; what++) {
            due.is("house 0 " + what, x.house(0, what), house[what]);
        }
        due.is("has", x.officer(0, 2), 5);
        due.is("the books are as they were", x.ruled(0), 0);
        due.is("back to the other", x.back(0), 2);
        all(due, "the other", x, 10, 2, 9, 2, 1, 1, 2, -1, 2, 0, 9, 0, 2, 6, 10, 0);
        due.is("back again", x.back(3), 1);
        due.is("as it was", x.house(0, 0), 47);
    }

    /** All that an image held is overwritten ahead of going back. */
    private static void booksAndActs(Due due) {
        FireTax x = Due.land("duchy 10 1 0;house 50 0 0;house 40 0 0;officer 0 99", "call 1");
        x.book(0, 0, 44);
        x.book(1, 1, 38);
        for (int i = 1; i <= 3; i++) {
            x.fell(0, i);
        }
        x.image(1);
        x.book(-1, 0, 0);
        x.book(5, 1, 999);
        x.book(6, 0, 998);
        x.book(7, 1, 997);
        for (int i = 0; i < 3; i++) {
            x.undo();
        }
        for (int i = 0; i < 9; i++) {
            x.hide(1, 2);
        }
        due.is("no rule is so", x.ruled(0), 0);
        due.is("back", x.back(1), 0);
        due.is("two books", x.count(12), 2);
        due.is("by rule 0", x.ruled(1), 0);
        due.is("alone", x.ruled(0), 1);
        int[] wood = {3, 1, 0};
        for (int i = 0; i < 3; i++) {
            due.is("undo", x.undo(), 2 - i);
            due.is("wood", x.house(0, 1), wood[i]);
            due.is("nothing hidden", x.house(1, 3), 0);
        }
    }

    private static void rulesAndTapeStay(Due due) {
        FireTax x = Due.land(LAND, "call 1");
        x.image(1);
        Due.rule(x, "call 2");
        x.force(1);
        x.feed(0, 0, 0, 0, 0);
        due.is("back", x.back(1), 0);
        due.is("rules stay", x.count(6), 2);
        due.is("the tape stays", x.count(15), 20);
        due.is("the first in force", x.count(7), 0);
        due.is("the second is there", x.force(1), 0);
    }

    private static void undoneBehindBack(Due due) {
        FireTax x = Due.land(LAND);
        x.fell(0, 1);
        x.fell(0, 2);
        x.image(2);
        x.undo();
        x.undo();
        x.fell(1, 9);
        due.is("back", x.back(2), 0);
        due.is("two can be undone", x.count(13), 2);
        due.is("wood", x.house(0, 1), 6);
        due.is("the last", x.undo(), 1);
        due.is("wood then", x.house(0, 1), 4);
        due.is("the first", x.undo(), 0);
        due.is("wood at first", x.house(0, 1), 3);
        due.is("of house 1", x.house(1, 1), 0);
    }

    private static void madeAnew(Due due) {
        FireTax x = Due.land(LAND);
        due.is("image", x.image(0), 0);
        x.night();
        due.is("anew", x.image(0), 1);
        x.night();
        due.is("back", x.back(0), 1);
        due.is("night", x.count(8), 1);
        due.is("what happens then is not in it", x.fell(0, 9), 11);
        due.is("back again", x.back(0), 1);
        due.is("wood", x.house(0, 1), 2);
        due.is("nothing made", x.back(1), -1);
        due.is("nothing happened", x.count(8), 1);
    }

    private static void withoutDuchy(Due due) {
        FireTax x = new FireTax();
        due.is("image", x.image(0), 0);
        Due.duchy(x, LAND);
        x.night();
        due.is("back", x.back(0), 0);
        all(due, "no duchy", x, 0, 0, 0, 0, 0, 0, 0, -1, 0, 0, 0, 0, 0, 0, 0, 0);
        due.is("no night", x.night(), -1);
        due.is("no house", x.house(0, 0), -2);
        due.is("no rate", x.rate(1), -1);
    }

    private static void wrong(Due due) {
        FireTax x = Due.land(LAND);
        x.night();
        for (int far : new int[] {-1, 4, Integer.MIN_VALUE, Integer.MAX_VALUE}) {
            due.is("image " + far, x.image(far), -1);
            due.is("back " + far, x.back(far), -1);
        }
        for (int k = 0; k < 4; k++) {
            due.is("never made " + k, x.back(k), -1);
            due.is("made " + k, x.image(k), 1);
        }
        due.is("nothing happened", x.count(13), 1);
    }
}
