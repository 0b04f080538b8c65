/** Promises 26 to 28: each bound of book, ruled and look, just within and just beyond. */
public final class BookBoundsTest {
    private static final String LOSES = "duchy 0 1 0;house 99 0 0;house 50 0 0";
    /** Half of 80 is taken once, on the night that is the rule's number. */
    private static final String ONCE = "duchy 50 0 0;house 80 0 0;officer 0 200";
    private static final String[] ON_NIGHT = {"call 1 if night=0", "call 1 if night=1", "call 1 if night=2", "call 1 if night=3",
        "call 1 if night=4", "call 1 if night=5"};

    public static void main(String[] args) {
        Due due = new Due("BookBoundsTest");
        nightsOfBooks(due);
        warmthOfBooks(due);
        housesOfBooks(due);
        tenBooks(due);
        noBooks(due);
        behindTheNthNight(due);
        ruledWhat(due);
        theFirst(due);
        fromTheBegin(due);
        lookNights(due);
        lookHouses(due);
        lookOfNone(due);
        due.end();
    }

    /** Behind the n-th NIGHT of all (0 to 60), (n NONE: there are none then, 0). */
    private static void nightsOfBooks(Due due) {
        FireTax x = Due.land(LOSES);
        new Edge(due, "n", n -> x.book(n, 0, 0)).answers(0, 1).answers(1, 2).answers(59, 3).answers(60, 4).answers(-1, 0)
                .answers(-2, -2).answers(-3, -2).answers(61, -2).answers(62, -2)
                .answers(Integer.MIN_VALUE, -2).answers(Integer.MAX_VALUE, -2);
        due.is("none came", x.count(12), 0);
    }

    /** So much WARMTH (0 to 999). */
    private static void warmthOfBooks(Due due) {
        FireTax x = Due.land(LOSES);
        new Edge(due, "warmth", warmth -> x.book(0, 0, warmth)).answers(0, 1).answers(1, 2).answers(998, 3).answers(999, 4)
                .refuses(0, 999, -2);
        due.is("four", x.count(12), 4);
        FireTax hot = Due.land("duchy 0 0 0;house 99 99 20");
        hot.book(44, 0, 999);
        due.is("999 behind 44", hot.ruled(0), 1);
        hot.book(43, 0, 979);
        due.is("979 behind 43", hot.ruled(0), 1);
        hot.book(60, 0, 999);
        due.is("999 behind 60", hot.ruled(0), 1);
        hot.book(60, 0, 998);
        due.is("not 998", hot.ruled(0), 0);
        FireTax cold = Due.land("duchy 0 20 0;house 20 0 0");
        cold.book(0, 0, 0);
        due.is("0 behind 0", cold.ruled(0), 1);
    }

    private static void housesOfBooks(Due due) {
        FireTax x = Due.land(LOSES);
        new Edge(due, "house", h -> x.book(0, h, 9)).answers(0, 1).answers(1, 2).refuses(0, 1, -2);
        FireTax eight = Due.land("duchy 0 0 0" + ";house 5 0 0".repeat(7) + ";house 6 0 0");
        new Edge(due, "house of eight", h -> eight.book(0, h, h < 7 ? 5 : 6)).answers(0, 1).answers(7, 2).refuses(0, 7, -2);
        due.is("so it is", eight.ruled(0), 1);
        FireTax none = new FireTax();
        due.is("without a duchy", none.book(0, 0, 0), -2);
        due.is("none without a duchy", none.book(-1, 0, 0), 0);
        due.is("without houses", Due.land("duchy 0 0 0").book(0, 0, 0), -2);
    }

    /** BOOKS 0 to 9: -2, and nothing happens, if there are 10; each of the ten counts. */
    private static void tenBooks(Due due) {
        for (int wrong = -1; wrong < 10; wrong++) {
            FireTax x = Due.land(LOSES, "call 1");
            for (int b = 0; b < 10; b++) {
                due.is("book " + b, x.book(6 * b, b % 2, expected(6 * b, b % 2) + (b == wrong ? 1 : 0)), b + 1);
            }
            due.is("an eleventh", x.book(0, 0, 0), -2);
            due.is("refused anyhow", x.book(61, 0, 0), -2);
            due.is("ten", x.count(12), 10);
            due.is("so they are but " + wrong, x.ruled(0), wrong < 0 ? 2 : 0);
            due.is("the first", x.ruled(1), wrong < 0 ? -1 : -2);
        }
    }

    /** What a house of LOSES has behind the n-th night. */
    private static int expected(int n, int house) {
        return Math.max(0, (house == 0 ? 99 : 50) - n - 1);
    }

    /** n NONE: there are none then, whatever else is told; they can be told anew. */
    private static void noBooks(Due due) {
        FireTax x = Due.land(LOSES);
        int[] odd = {Integer.MIN_VALUE, -1, 0, 8, 1000, Integer.MAX_VALUE};
        for (int number : odd) {
            for (int b = 1; b <= 10; b++) {
                due.is("book", x.book(0, 0, 7), b);
            }
            due.is("none by " + number, x.book(-1, number, number), 0);
            due.is("none", x.count(12), 0);
            due.is("by none all are so", x.ruled(0), 1);
        }
        due.is("none again", x.book(-1, 0, 0), 0);
    }

    /** The 0-th NIGHT is the first, the 60th the 61st. */
    private static void behindTheNthNight(Due due) {
        for (int n = 0; n <= 60; n++) {
            FireTax x = Due.land(LOSES);
            x.book(n, 0, 98 - n);
            due.is("behind " + n, x.ruled(0), 1);
            x.book(-1, 0, 0);
            x.book(n, 0, 99 - n);
            due.is("not one more behind " + n, x.ruled(0), 0);
            x.book(-1, 0, 0);
            x.book(n, 0, 97 - n);
            due.is("not one less behind " + n, x.ruled(0), 0);
        }
    }

    /** What 0, 1; -3 for others, or without a DUCHY. */
    private static void ruledWhat(Due due) {
        FireTax x = Due.land(ONCE, ON_NIGHT);
        new Edge(due, "what", x::ruled).answers(0, 7).answers(1, -1).refuses(0, 1, -3);
        FireTax none = new FireTax();
        new Edge(due, "what without a duchy", none::ruled).answers(0, -3).answers(1, -3).refuses(0, 1, -3);
        FireTax empty = Due.land("duchy 0 0 0");
        new Edge(due, "what without houses", empty::ruled).answers(0, 1).answers(1, -1).refuses(0, 1, -3);
    }

    /** The first (none ahead of 0, told as NONE); -2: there is none such. */
    private static void theFirst(Due due) {
        FireTax x = Due.land(ONCE, ON_NIGHT);
        for (int rule = 0; rule <= 5; rule++) {
            x.book(-1, 0, 0);
            x.book(rule, 0, 40);
            due.is("rules up to " + rule, x.ruled(0), rule + 1);
            due.is("the first of them", x.ruled(1), 0);
            if (rule > 0) {
                x.book(rule - 1, 0, 80);
            }
            due.is("one alone", x.ruled(0), 1);
            due.is("it is " + rule, x.ruled(1), rule);
        }
        x.book(-1, 0, 0);
        x.book(5, 0, 80);
        due.is("none alone", x.ruled(0), 1);
        due.is("none", x.ruled(1), -1);
        x.book(4, 0, 79);
        due.is("not any", x.ruled(0), 0);
        due.is("no first", x.ruled(1), -2);
        x.book(-1, 0, 0);
        x.book(4, 0, 80);
        due.is("none and 5", x.ruled(0), 2);
        due.is("none is the first", x.ruled(1), -1);
    }

    /** From the begin on, all as the text told it. */
    private static void fromTheBegin(Due due) {
        FireTax x = Due.land(ONCE + ";snow 1", ON_NIGHT);
        x.force(3);
        for (int i = 0; i < 5; i++) {
            x.night();
        }
        x.hide(0, 9);
        x.fell(0, 9);
        x.spit(0);
        x.book(2, 0, 40);
        due.is("three of them", x.ruled(0), 3);
        due.is("0 first", x.ruled(1), 0);
        due.is("alike behind 3", x.look(3, 1), 3);
        due.is("now", x.house(0, 0), 31);
    }

    /** LOOK (n 0 to 60) what 0, 1; NONE without these, or a DUCHY. */
    private static void lookNights(Due due) {
        FireTax x = Due.land(ONCE, ON_NIGHT);
        int[] alike = {6, 5, 4, 4, 5, 6};
        for (int n = 0; n <= 60; n++) {
            due.is("alike behind " + n, x.look(n, 1), n < 6 ? alike[n] : 6);
            due.is("the house", x.look(n, 0), 0);
        }
        for (int what = 0; what <= 1; what++) {
            int of = what;
            new Edge(due, "n, what " + what, n -> x.look(n, of)).refuses(0, 60, -1);
        }
        new Edge(due, "what", what -> x.look(0, what)).answers(0, 0).answers(1, 6).refuses(0, 1, -1);
        FireTax late = Due.land(ONCE, "call 1 if night=59", "call 1 if night=60", "call 1 if night=61");
        due.is("behind 58", late.look(58, 1), 4);
        due.is("behind 59", late.look(59, 1), 3);
        due.is("behind 60", late.look(60, 1), 2);
        due.is("without a duchy", new FireTax().look(0, 0), -1);
    }

    /** The most alike are fewest, of several the least: of eight houses, by none and six rules. */
    private static void lookHouses(Due due) {
        for (int parts = 0; parts < 8; parts++) {
            StringBuilder text = new StringBuilder("duchy 50 0 0" + ";house 80 0 0".repeat(8));
            for (int h = 0; h < 8; h++) {
                text.append(h == parts ? "" : ";lane " + parts + " " + h);
            }
            String[] rules = new String[6];
            for (int r = 0; r < 6; r++) {
                rules[r] = "call 1 if house=" + parts + " and night<=" + r;
            }
            FireTax x = Due.land(text + ";officer " + parts + " 200", rules);
            due.is("all alike but none", x.look(0, 1), 6);
            due.is("the house " + parts, x.look(0, 0), parts);
            due.is("all part but two", x.look(5, 1), 1);
            due.is("by the house " + parts, x.look(5, 0), parts);
            x.book(5, (parts + 1) % 8, 80);
            due.is("nothing is said by another", x.ruled(0), 7);
            x.book(0, parts, 80);
            due.is("by one all are alike", x.look(0, 1), 1);
            due.is("of several the least", x.look(0, 0), 0);
        }
    }

    /** -2: no RULE is so, or there are no HOUSES. */
    private static void lookOfNone(Due due) {
        FireTax x = Due.land(LOSES);
        x.book(0, 0, 98);
        new Edge(due, "what", what -> x.look(0, what)).answers(0, 0).answers(1, 1).refuses(0, 1, -1);
        x.book(0, 0, 97);
        new Edge(due, "what of none", what -> x.look(0, what)).answers(0, -2).answers(1, -2).refuses(0, 1, -1);
        FireTax empty = Due.land("duchy 0 0 0");
        new Edge(due, "what without houses", what -> empty.look(60, what)).answers(0, -2).answers(1, -2).refuses(0, 1, -1);
        FireTax one = Due.land("duchy 0 0 0;house 0 0 0");
        due.is("of one house", one.look(60, 0), 0);
        due.is("one", one.look(60, 1), 1);
    }
}
