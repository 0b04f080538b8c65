/** Promises 5, 6 and 9: what the words, sums and tests of a rule are worth, and force. */
public final class RuleValuesTest {
    /** One officer at house 0 with 0, 1 and 2 in a row; house 3 lies alone. */
    private static final String LAND = "duchy 10 1 5;house 60 3 4;house 55 7 9;house 40 0 2;house 5 0 0;"
            + "lane 0 1;lane 1 2;officer 0 20";

    public static void main(String[] args) {
        Due due = new Due("RuleValuesTest");
        words(due);
        since(due);
        sinceAtOthers(due);
        sums(due);
        tests(due);
        clauses(due);
        force(due);
        due.end();
    }

    /** Whether the officer of LAND calls at house 1 on the night behind so many by "call 1 if house=0". */
    private static boolean holds(int nights, String test) {
        FireTax x = Due.land(LAND, "call 1 if house=0", "call 1 if house=1 and [" + test + "]");
        for (int i = 0; i < nights; i++) {
            x.night();
        }
        x.force(1);
        x.night();
        return x.house(1, 6) == nights;
    }

    private static void is(Due due, int nights, String sum, long value) {
        due.is(sum + " is " + value, holds(nights, sum + "=" + value) ? 1 : 0, 1);
        due.is(sum + " is not " + (value + 1), holds(nights, sum + "=" + (value + 1)) ? 1 : 0, 0);
    }

    private static void words(Due due) {
        is(due, 0, "officer", 0);
        is(due, 0, "house", 1);
        is(due, 0, "warmth", 55);
        is(due, 1, "warmth", 63);
        is(due, 0, "wood", 7);
        is(due, 2, "wood", 5);
        is(due, 0, "heat", 9);
        is(due, 0, "tenth", 5);
        is(due, 0, "room", 20);
        is(due, 1, "room", 14);
        is(due, 9, "room", 0);
        is(due, 9, "tenth", 0);
        is(due, 0, "here", 0);
        is(due, 0, "beside", 2);
        is(due, 0, "since", 99);
        is(due, 3, "night", 3);
        is(due, 0, "frozen", 0);
        is(due, 1, "frozen", 1);
        FireTax x = Due.land(LAND + ";officer 2 9", "call 1 if officer=1 and here=1 and beside=1 and house=2");
        x.night();
        due.is("of the second officer", x.house(2, 6), 0);
        due.is("the first stays", x.house(0, 6), -1);
    }

    private static void since(Due due) {
        FireTax x = Due.land("duchy 1 0 0;house 9 0 0;officer 0 20", "call 1 if since=99",
                "call 1 if since=1", "call 1 if since=3", "call 1", "call 1 if since=2");
        x.night();
        due.is("nobody ever: 99", x.house(0, 6), 0);
        x.force(1);
        x.night();
        due.is("called the night before: 1", x.house(0, 6), 1);
        x.force(2);
        x.night();
        x.night();
        due.is("not yet 3", x.house(0, 6), 1);
        x.night();
        due.is("three nights: 3", x.house(0, 6), 4);
        x.force(-1);
        for (int i = 0; i < 98; i++) {
            x.night();
        }
        x.force(0);
        x.night();
        due.is("99 nights: 99", x.house(0, 6), 103);
        x.force(-1);
        for (int i = 0; i < 120; i++) {
            x.night();
        }
        x.force(0);
        x.night();
        due.is("more: 99", x.house(0, 6), 224);
    }

    private static void sinceAtOthers(Due due) {
        FireTax x = Due.land("duchy 1 0 0;house 9 0 0;house 9 0 0;lane 0 1;officer 1 20", "call 1 if house=1",
                "call 1 if house=1 and since=2", "call 1 if house=0 and since=99");
        x.night();
        x.night();
        x.force(-1);
        x.night();
        x.force(1);
        x.night();
        due.is("two nights at 1", x.house(1, 6), 3);
        x.force(2);
        x.night();
        due.is("never at 0", x.house(0, 6), 4);
    }

    private static void sums(Due due) {
        is(due, 0, "2+3*4", 14);
        is(due, 0, "2*3+4", 10);
        is(due, 0, "20-3-4", 13);
        is(due, 0, "20-3*4+1", 9);
        is(due, 0, "100/7/2", 7);
        is(due, 0, "100/7*2", 28);
        is(due, 0, "100%7*3", 6);
        is(due, 0, "7/0+1", 1);
        is(due, 0, "7%0+2", 2);
        is(due, 0, "5+7%4*2-1", 10);
        is(due, 0, "warmth-wood*heat+night+10", 2);
        due.is("below 0", holds(0, "3-10<0-6") ? 1 : 0, 1);
        goesRound(due);
    }

    /** Its true value is above 2^63, so that it is below 0 in 64 bits. */
    private static void goesRound(Due due) {
        String text = "99999*99999*99999*9999";
        long product = 99999L * 99999L * 99999L * 9999L;
        due.is("the product is below 0", holds(0, text + "<0") ? 1 : 0, 1);
        is(due, 0, text + "/99999/99999/99999+20000", product / 99999 / 99999 / 99999 + 20000);
        is(due, 0, text + "%7+10", product % 7 + 10);
        is(due, 0, text + "%10000+10000", product % 10000 + 10000);
        is(due, 0, text + "*4%9973+9973", product * 4 % 9973 + 9973);
    }

    private static void tests(Due due) {
        String[] hold = {"1<2", "2<=2", "1<=2", "2=2", "2>=2", "3>=2", "3>2", "not 2<1", "not not 1<2",
            "1=1 or 1=2 and 1=2", "1=2 and 1=2 or 1=1", "[1=1 or 1=2] and 1=1", "not 1=2 and 1=1",
            "not [1=2 or 1=3]", "not [1=1 and 1=2]", "1=2 or 1=3 or 1=1", "1=1 and 2=2 and 3=3",
            "not [not [1=1]]", "1+1=2*1"};
        String[] fail = {"2<2", "3<2", "3<=2", "1=2", "1>=2", "2>2", "1>2", "not 1<2", "not not 2<1",
            "[1=1 or 1=2] and 1=2", "not 1=1 and 1=2", "not 1=1 or 1=2", "not [1=1 or 1=2]",
            "1=1 and 2=2 and 3=4", "1=2 or 2=3"};
        for (String test : hold) {
            due.is(test, holds(0, test) ? 1 : 0, 1);
        }
        for (String test : fail) {
            due.is(test, holds(0, test) ? 1 : 0, 0);
        }
    }

    /** The house that is called at by a rule in LAND, or NONE. */
    private static int called(String rule) {
        FireTax x = Due.land(LAND, rule);
        x.night();
        for (int h = 0; h < 4; h++) {
            if (x.house(h, 6) == 0) {
                return h;
            }
        }
        return -1;
    }

    private static void clauses(Due due) {
        due.is("the greatest", called("call warmth"), 0);
        due.is("the greatest beside", called("call wood"), 1);
        due.is("of several the least", called("call 7"), 0);
        due.is("not two lanes off", called("call house"), 1);
        due.is("0 is not above 0", called("call 0"), -1);
        due.is("below 0", called("call 0-5"), -1);
        due.is("the first clause whose test holds", called("call 1 if house=0;call 2 if house=1;call 99"), 1);
        due.is("the first without a test", called("call 1;call 99 if house=1"), 0);
        due.is("0 without a clause", called("call 5 if house=9"), -1);
        due.is("a clause of 0 ends it", called("call 0 if house=1;call warmth"), 0);
        due.is("not 1=1 at its outermost", called("call 5 if not 1=1"), -1);
        due.is("not 1=2 at its outermost", called("call 5 if not 1=2"), 0);
        due.is("not not 1=1 at its outermost", called("call 5 if not not 1=1"), 0);
        due.is("of the last clause", called("call 0 if house=0;call wood-9 if wood=9;call 3"), 1);
    }

    private static void force(Due due) {
        FireTax x = new FireTax();
        due.is("none such", x.force(0), -2);
        due.is("none", x.force(-1), -1);
        Due.rule(x, "call 1");
        Due.rule(x, "call 2");
        due.is("below", x.force(-2), -2);
        due.is("beyond", x.force(2), -2);
        due.is("least", x.force(Integer.MIN_VALUE), -2);
        due.is("most", x.force(Integer.MAX_VALUE), -2);
        due.is("nothing happened", x.count(7), -1);
        due.is("the second", x.force(1), -1);
        due.is("the second is in force", x.count(7), 1);
        due.is("the first", x.force(0), 1);
        due.is("refused", x.force(2), -2);
        due.is("the first is in force still", x.count(7), 0);
        due.is("none again", x.force(-1), 0);
        due.is("none in force", x.count(7), -1);
        FireTax y = Due.land(LAND, "call 1 if house=0", "call 1 if house=1");
        y.force(-1);
        due.is("by none nothing is taken", y.night(), 0);
        due.is("nobody calls", y.house(0, 6), -1);
        y.force(1);
        y.night();
        due.is("by the second at 1", y.house(1, 6), 1);
        due.is("not at 0", y.house(0, 6), -1);
    }
}
