/** Promise 4: duchy. */
public final class DuchyTextTest {
    private static final String HEAD = "duchy 0 0 0;";
    private static final String HOUSE = "house 1 1 1;";

    public static void main(String[] args) {
        Due due = new Due("DuchyTextTest");
        ordinary(due);
        blanks(due);
        edges(due);
        strangeBytesAndWords(due);
        numbersNotAsTold(due);
        tooMany(due);
        twelveLanes(due);
        whatStays(due);
        due.end();
    }

    private static void ordinary(Due due) {
        FireTax x = new FireTax();
        due.is("houses", Due.duchy(x, "duchy 10 2 5;house 40 2 3;house 20 0 0;lane 0 1;hat 1 7;hat 1 8;"
                + "officer 1 30;officer 0 20;snow 0;lane 1 0"), 2);
        int[] counts = {10, 2, 5, 2, 1, 2};
        for (int what = 0; what < counts.length; what++) {
            due.is("count " + what, x.count(what), counts[what]);
        }
        due.is("warmth", x.house(0, 0), 40);
        due.is("wood", x.house(0, 1), 2);
        due.is("heat", x.house(0, 2), 3);
        due.is("no hat", x.house(0, 3), 0);
        due.is("the last hat", x.house(1, 3), 8);
        due.is("beside 0", x.house(0, 5), 2);
        due.is("beside 1", x.house(1, 5), 1);
        due.is("first officer", x.officer(0, 0), 1);
        due.is("first stomach", x.officer(0, 1), 30);
        due.is("second officer", x.officer(1, 0), 0);
        due.is("empty", x.officer(1, 2), 0);
        due.is("snow now", x.count(11), 1);
        due.is("night", x.count(8), 0);
        due.is("nobody called", x.house(0, 6), -1);
        due.is("no houses", Due.duchy(x, "duchy 1 1 1"), 0);
    }

    private static void blanks(Due due) {
        FireTax x = new FireTax();
        due.is("many", Due.duchy(x, "  duchy  1   2 3 ; house 4  5 6  ;hat 0 9 "), 1);
        due.is("few", Due.duchy(x, "duchy1 2 3;house4 5 6"), 1);
        due.is("digits go on", Due.duchy(x, "duchy 12 3"), Due.fault(10, 0));
        due.is("a tab", Due.duchy(x, "duchy\t1 2 3"), Due.fault(5, 0));
        due.is("blanks alone", Due.duchy(x, "   "), Due.fault(3, 0));
        due.is("blanks behind", Due.duchy(x, "duchy 1 2  "), Due.fault(11, 0));
    }

    private static void edges(Due due) {
        FireTax x = new FireTax();
        due.is("greatest", Due.duchy(x, "duchy 100 20 50;house 99 99 20;house 0 0 0;lane 1 0;hat 0 50;"
                + "officer 1 200;snow 99"), 2);
        due.is("least", Due.duchy(x, HEAD + "house 0 0 0;hat 0 0;officer 0 1;snow 0"), 1);
        due.is("five digits", Due.duchy(x, "duchy 00100 00020 00050"), 0);
        StringBuilder full = new StringBuilder("duchy 0 0 0");
        while (full.length() < 399) {
            full.append(' ');
        }
        due.is("400 bytes", Due.duchy(x, full.append(' ').toString()), 0);
    }

    private static void strangeBytesAndWords(Due due) {
        FireTax x = new FireTax();
        fault(due, x, "", 0, 0);
        fault(due, x, "duch", 0, 0);
        fault(due, x, "duchys 1 1 1", 0, 0);
        fault(due, x, "Duchy 1 1 1", 0, 0);
        fault(due, x, "duchy", 5, 0);
        fault(due, x, "duchy 1 1", 9, 0);
        fault(due, x, "duchy 1 x 1", 8, 0);
        fault(due, x, "duchy 1 -1 1", 8, 0);
        fault(due, x, "duchy 1 1 1 1", 12, 0);
        fault(due, x, "duchy 1 1 1 123456", 12, 0);
        fault(due, x, "duchy 1 1 1;", 12, 0);
        fault(due, x, "duchy 1 1 1;;", 12, 0);
        fault(due, x, "duchy 1 1 1;call 1", 12, 0);
        fault(due, x, "duchy 1 1 1;house 1 1;", 21, 0);
        fault(due, x, "duchy 1 1 1;night", 12, 0);
        fault(due, x, "duchy 1 1 1\u00ff", 11, 0);
    }

    private static void numbersNotAsTold(Due due) {
        FireTax x = new FireTax();
        fault(due, x, "duchy 101 0 0", 6, 1);
        fault(due, x, "duchy 0 21 0", 8, 1);
        fault(due, x, "duchy 0 0 51", 10, 1);
        fault(due, x, "duchy 000000 0 0", 6, 1);
        fault(due, x, HEAD + "house 100 0 0", 18, 1);
        fault(due, x, HEAD + "house 0 100 0", 20, 1);
        fault(due, x, HEAD + "house 0 0 21", 22, 1);
        fault(due, x, HEAD + "lane 0 1", 17, 1);
        fault(due, x, HEAD + HOUSE + "lane 0 0", 31, 1);
        fault(due, x, HEAD + HOUSE + "lane 0 1", 31, 1);
        fault(due, x, HEAD + HOUSE + "lane 1 0", 29, 1);
        fault(due, x, HEAD + HOUSE + "hat 1 0", 28, 1);
        fault(due, x, HEAD + HOUSE + "hat 0 51", 30, 1);
        fault(due, x, HEAD + HOUSE + "officer 1 1", 32, 1);
        fault(due, x, HEAD + HOUSE + "officer 0 0", 34, 1);
        fault(due, x, HEAD + HOUSE + "officer 0 201", 34, 1);
        fault(due, x, HEAD + "snow 100", 17, 1);
        fault(due, x, HEAD + "snow 99999", 17, 1);
        fault(due, x, HEAD + "hat 0 0;" + HOUSE + "snow 1", 16, 1);
    }

    private static void tooMany(Due due) {
        FireTax x = new FireTax();
        fault(due, x, "house 1 1 1", 0, 4);
        fault(due, x, "  snow 1;duchy 0 0 0", 2, 4);
        fault(due, x, HEAD + " duchy 0 0 0", 13, 4);
        fault(due, x, HEAD + HOUSE.repeat(8) + "house 1 1 1", 108, 4);
        fault(due, x, HEAD + HOUSE.repeat(8) + "house x", 108, 4);
        due.is("eight houses", Due.duchy(x, HEAD + HOUSE.repeat(7) + "house 1 1 1"), 8);
        String officers = "officer 0 1;officer 0 1;officer 0 1";
        due.is("three officers", Due.duchy(x, HEAD + HOUSE + officers), 1);
        fault(due, x, HEAD + HOUSE + officers + ";officer 9 9", 60, 4);
        due.is("six snows", Due.duchy(x, HEAD + "snow 1;".repeat(5) + "snow 2"), 0);
        fault(due, x, HEAD + "snow 1;".repeat(6) + "snow 1", 54, 4);
        String hats = HEAD + HOUSE + "hat 0 1;".repeat(37);
        due.is("40 clauses", Due.duchy(x, hats + "hat 0 9"), 1);
        due.is("the last of 38 hats", x.house(0, 3), 9);
        fault(due, x, hats + "hat 0 9;hat 0 1", 328, 4);
        fault(due, x, hats + "hat 0 9;hut 0 1", 328, 0);
        fault(due, x, hats + "hat 0 9;", 328, 0);
        fault(due, x, hats + "hat 0 9;hat", 328, 4);
    }

    private static void twelveLanes(Due due) {
        FireTax x = new FireTax();
        StringBuilder text = new StringBuilder(HEAD + HOUSE.repeat(8));
        for (int h = 1; h < 8; h++) {
            text.append("lane 0 ").append(h).append(';');
        }
        for (int h = 2; h < 6; h++) {
            text.append("lane 1 ").append(h).append(';');
        }
        String eleven = text.toString();
        due.is("told again", Due.duchy(x, eleven + "lane 1 0;lane 2 0;lane 1 6"), 8);
        due.is("twelve lanes", x.count(4), 12);
        due.is("beside 0", x.house(0, 5), 254);
        due.is("beside 1", x.house(1, 5), 125);
        int place = eleven.length() + 9;
        fault(due, x, eleven + "lane 1 6;lane 1 7", place, 4);
        fault(due, x, eleven + "lane 1 6;lane 1 6", place, 4);
        fault(due, x, eleven + "lane 1 6;lane x", place, 4);
    }

    private static void whatStays(Due due) {
        FireTax x = Due.land("duchy 10 1 1;house 50 1 1;officer 0 50", "call 1");
        x.seed(77);
        x.night();
        x.book(0, 0, 45);
        x.image(2);
        fault(due, x, "duchy 1 1 1;house 2", 19, 0);
        due.is("the tape is empty", x.count(15), 0);
        due.is("tenth stays", x.count(0), 10);
        due.is("warmth stays", x.house(0, 0), 45);
        due.is("books stay", x.count(12), 1);
        due.is("acts stay", x.count(13), 1);
        due.is("another", Due.duchy(x, "duchy 1 2 3"), 0);
        due.is("the tape is empty again", x.count(15), 0);
        due.is("night 0", x.count(8), 0);
        due.is("no books", x.count(12), 0);
        due.is("nothing to undo", x.count(13), 0);
        due.is("undo", x.undo(), -2);
        due.is("force stays", x.count(7), 0);
        due.is("x stays", x.count(14), 77);
        due.is("no lanes", x.count(4), 0);
        due.is("no officers", x.count(5), 0);
        due.is("the image stays", x.back(2), 1);
        due.is("a hat and a lane", Due.duchy(x, HEAD + HOUSE + HOUSE + "lane 0 1;hat 0 9"), 2);
        due.is("and none", Due.duchy(x, HEAD + HOUSE + "house 1 1 1"), 2);
        due.is("no lane there", x.house(0, 5), 0);
        due.is("no hat there", x.house(0, 3), 0);
    }

    private static void fault(Due due, FireTax x, String text, int place, int kind) {
        due.is("duchy '" + text + "'", Due.duchy(x, text), Due.fault(place, kind));
    }
}
