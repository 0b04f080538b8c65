/** Promises 26, 27 and 28: book, ruled, look. */
public final class BooksTest {
    private static final String LAND = "duchy 10 1 5;house 50 0 0;house 60 0 0;house 40 0 0;lane 0 1;lane 0 2;officer 0 99";

    public static void main(String[] args) {
        Due due = new Due("BooksTest");
        book(due);
        ruled(due);
        fromTheBegin(due);
        look(due);
        wrong(due);
        due.end();
    }

    private static void book(Due due) {
        FireTax x = Due.land(LAND);
        for (int i = 1; i <= 10; i++) {
            due.is("book " + i, x.book(i == 1 ? 60 : i == 2 ? 0 : i, i % 3, i == 1 ? 999 : i == 2 ? 0 : i), i);
            due.is("how many", x.count(12), i);
        }
        due.is("an eleventh", x.book(0, 0, 1), -2);
        due.is("ten", x.count(12), 10);
        due.is("none then", x.book(-1, -5, -5), 0);
        due.is("none", x.count(12), 0);
        due.is("one", x.book(0, 0, 49), 1);
        due.is("told twice", x.book(0, 0, 49), 2);
    }

    /** Behind night 0: by none 49 59 39, by 0 44 59 39, by 1 49 53 39, by 2 49 59 35. */
    private static void ruled(Due due) {
        FireTax x = Due.land(LAND, "call 1 if house=0", "call 1 if house=1", "call 1 if house=2", "call 1 if night=1");
        due.is("no books: all", x.ruled(0), 5);
        due.is("none ahead of 0", x.ruled(1), -1);
        x.book(0, 0, 49);
        due.is("not 0", x.ruled(0), 4);
        due.is("none first", x.ruled(1), -1);
        x.book(1, 1, 52);
        due.is("none is so", x.ruled(0), 0);
        due.is("no first", x.ruled(1), -2);
        x.book(-1, 0, 0);
        x.book(0, 1, 53);
        due.is("1 alone", x.ruled(0), 1);
        due.is("it is 1", x.ruled(1), 1);
        x.book(-1, 0, 0);
        x.book(0, 2, 35);
        due.is("2 alone", x.ruled(1), 2);
        x.book(0, 0, 49);
        due.is("2 still", x.ruled(0), 1);
        x.book(0, 0, 44);
        due.is("both cannot be", x.ruled(0), 0);
        x.book(-1, 0, 0);
        x.book(1, 0, 44);
        due.is("called at 0 on night 1", x.ruled(0), 1);
        due.is("it is 3", x.ruled(1), 3);
        x.book(-1, 0, 0);
        x.book(1, 0, 48);
        x.book(0, 1, 59);
        due.is("none and 2", x.ruled(0), 2);
        due.is("none first again", x.ruled(1), -1);
        x.book(-1, 0, 0);
        x.book(60, 0, 4);
        x.book(44, 0, 5);
        due.is("by none and others", x.ruled(0), 3);
    }

    /** What has been done since, and what is in force, is nothing to it. */
    private static void fromTheBegin(Due due) {
        FireTax x = Due.land(LAND, "call 1 if house=0", "call 1 if house=1");
        x.night();
        x.lend(1, 0, 9);
        x.hide(1, 9);
        x.force(1);
        x.night();
        x.book(0, 0, 44);
        due.is("rule 0", x.ruled(0), 1);
        due.is("it is 0", x.ruled(1), 0);
        due.is("in force", x.count(7), 1);
        due.is("night", x.count(8), 2);
        due.is("warmth", x.house(0, 0), 52);
        due.is("look behind 1", x.look(1, 1), 1);
        due.is("acts", x.count(13), 4);
    }

    private static void look(Due due) {
        FireTax x = Due.land(LAND, "call 1 if house=1", "call 1 if house=2", "call 2-house if house<2");
        due.is("1 alike but one, so all: house 0", x.look(0, 0), 0);
        due.is("three have 49", x.look(0, 1), 3);
        x.book(0, 0, 49);
        due.is("none, 0 and 1: house 1", x.look(0, 0), 1);
        due.is("two have 59", x.look(0, 1), 2);
        x.book(0, 1, 59);
        due.is("none and 1: house 2", x.look(0, 0), 2);
        due.is("they part", x.look(0, 1), 1);
        x.book(0, 2, 35);
        due.is("1 alone: the least", x.look(0, 0), 0);
        due.is("one", x.look(0, 1), 1);
        x.book(0, 2, 34);
        due.is("no rule is so", x.look(0, 0), -2);
        due.is("not one", x.look(0, 1), -2);
        FireTax later = Due.land("duchy 10 0 0;house 50 0 0;house 50 0 0;lane 0 1;officer 0 99",
                "call 1 if night=5", "call 1 if night=5 and house=1");
        due.is("behind 4 all are alike", later.look(4, 1), 3);
        due.is("house 0", later.look(4, 0), 0);
        due.is("behind 5 two are", later.look(5, 1), 2);
        due.is("behind 60", later.look(60, 1), 2);
        FireTax book = Due.land("duchy 10 0 0;house 50 0 0;house 50 0 0;lane 0 1;officer 0 99",
                "call 1 if house=0 and night=1", "call 1 if house=0 and night=2", "call 1 if house=1 and night=3");
        book.book(4, 1, 50);
        due.is("not 2", book.ruled(0), 3);
        due.is("behind 0 all are alike", book.look(0, 1), 3);
        due.is("behind 1 two are", book.look(1, 1), 2);
        due.is("behind 4 two are", book.look(4, 1), 2);
        FireTax six = Due.land("duchy 10 0 0;house 90 0 0;officer 0 99", "call 1", "call 1", "call 1", "call 1 if night=0",
                "call 1 if night<2", "call 1 if night<3");
        due.is("all seven", six.look(0, 1), 6);
        due.is("behind 1", six.look(1, 1), 5);
        due.is("behind 2", six.look(2, 1), 4);
        due.is("behind 3", six.look(3, 1), 3);
        FireTax plain = Due.land("duchy 10 20 0;house 25 0 0;officer 0 99", "call 1");
        due.is("5 and 3 are not alike", plain.look(0, 1), 1);
        due.is("0 and 0 are", plain.look(1, 1), 2);
        due.is("no rules", Due.land(LAND).look(7, 1), 1);
        due.is("no houses", Due.land("duchy 0 0 0").look(0, 0), -2);
        due.is("no houses, how many", Due.land("duchy 0 0 0").look(0, 1), -2);
    }

    private static void wrong(Due due) {
        FireTax x = Due.land(LAND);
        for (int far : new int[] {-2, 61, Integer.MIN_VALUE, Integer.MAX_VALUE}) {
            due.is("book n " + far, x.book(far, 0, 0), -2);
            due.is("look n " + far, x.look(far, 0), -1);
        }
        due.is("look n -1", x.look(-1, 0), -1);
        for (int far : new int[] {-1, 3, Integer.MIN_VALUE, Integer.MAX_VALUE}) {
            due.is("book house " + far, x.book(0, far, 0), -2);
        }
        for (int far : new int[] {-1, 1000, Integer.MIN_VALUE, Integer.MAX_VALUE}) {
            due.is("book warmth " + far, x.book(0, 0, far), -2);
        }
        due.is("no books", x.count(12), 0);
        for (int far : new int[] {-1, 2, Integer.MIN_VALUE, Integer.MAX_VALUE}) {
            due.is("ruled what " + far, x.ruled(far), -3);
            due.is("look what " + far, x.look(0, far), -1);
        }
        FireTax none = new FireTax();
        due.is("no duchy, book", none.book(0, 0, 0), -2);
        due.is("no duchy, no books", none.book(-1, 0, 0), 0);
        due.is("no duchy, ruled", none.ruled(0), -3);
        due.is("no duchy, look", none.look(0, 0), -1);
    }
}
