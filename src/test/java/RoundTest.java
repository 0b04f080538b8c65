/** Promises 18 and 19: round, span. */
public final class RoundTest {
    public static void main(String[] args) {
        Due due = new Due("RoundTest");
        best(due);
        freezesNobody(due);
        noRow(due);
        nothingIsARow(due);
        firstRow(due);
        others(due);
        wrong(due);
        due.end();
    }

    /** Tenths of 50 and 60 by half: the rows of two nights bring 37, 55, 55 and 45. */
    private static void best(Due due) {
        FireTax x = Due.land("duchy 50 0 0;house 50 0 0;house 60 0 0;lane 0 1;officer 0 99");
        due.is("one night", x.round(0, 1, -1), 30);
        due.is("at 1", x.round(0, 1, 0), 1);
        due.is("no second place", x.round(0, 1, 1), -2);
        due.is("two nights", x.round(0, 2, -1), 55);
        due.is("first at 0", x.round(0, 2, 0), 0);
        due.is("then at 1", x.round(0, 2, 1), 1);
        due.is("no third place", x.round(0, 2, 2), -2);
        due.is("three nights", x.round(0, 3, -1), 70);
        due.is("four nights", x.round(0, 4, -1), 82);
        due.is("the fourth place", x.round(0, 4, 3), 1);
        due.is("least of two", x.span(0, 2, 0), 37);
        due.is("most of two", x.span(0, 2, 1), 55);
        due.is("least of one", x.span(0, 1, 0), 25);
        due.is("least of four", x.span(0, 4, 0), 25 + 12 + 6 + 3);
        due.is("most of four", x.span(0, 4, 1), 82);
        due.is("nothing changed", x.count(8), 0);
        due.is("nobody called", x.house(0, 6), -1);
        due.is("nothing taken", x.officer(0, 2), 0);
    }

    private static void freezesNobody(Due due) {
        FireTax x = Due.land("duchy 50 1 9;house 20 0 0;house 19 0 0;house 30 9 9;lane 0 1;lane 0 2;officer 0 99");
        due.is("at 2", x.round(0, 1, 0), 2);
        due.is("two at 2", x.round(0, 2, -1), 15 + 11);
        due.is("most, though 0 freezes", x.span(0, 2, 1), 10 + 19);
        FireTax y = Due.land("duchy 50 1 9;house 18 0 0;house 12 0 0;lane 0 1;officer 0 99");
        due.is("any call freezes", y.round(0, 1, -1), -2);
        due.is("any place", y.round(0, 1, 0), -2);
        due.is("least", y.span(0, 1, 0), 6);
        due.is("most", y.span(0, 1, 1), 9);
        y.night();
        y.night();
        y.night();
        y.night();
        due.is("1 is frozen", y.count(9), 2);
        due.is("one that is frozen now does not count", y.round(0, 1, -1), -2);
        FireTax z = Due.land("duchy 10 1 9;house 50 0 0;house 5 0 0;lane 0 1;officer 0 99");
        due.is("somebody freezes anyhow", z.round(0, 1, -1), -2);
        z.night();
        due.is("not now any more", z.round(0, 1, -1), 4);
        due.is("only at 0", z.round(0, 2, 1), 0);
    }

    private static void noRow(Due due) {
        FireTax x = Due.land("duchy 10 1 9;house 5 0 0;house 50 0 0;house 5 0 0;lane 0 1;officer 2 99;officer 0 99");
        x.night();
        due.is("0 and 2 are frozen", x.count(9), 5);
        due.is("no row", x.round(0, 1, -1), -2);
        due.is("no place", x.round(0, 1, 0), -2);
        due.is("no least", x.span(0, 1, 0), -2);
        due.is("no most", x.span(0, 1, 1), -2);
        due.is("off a frozen one", x.round(1, 1, -1), 4);
        due.is("to 1", x.round(1, 1, 0), 1);
    }

    private static void nothingIsARow(Due due) {
        FireTax x = Due.land("duchy 10 0 0;house 9 0 0;house 50 0 0;lane 0 1;officer 0 9");
        due.is("least is nothing", x.span(0, 1, 0), 0);
        due.is("most", x.span(0, 1, 1), 5);
        FireTax y = Due.land("duchy 10 0 0;house 9 0 0;officer 0 9");
        due.is("most is nothing", y.span(0, 3, 1), 0);
        due.is("round of nothing", y.round(0, 3, -1), 0);
        due.is("is a row", y.round(0, 3, 2), 0);
    }

    private static void firstRow(Due due) {
        FireTax x = Due.land("duchy 0 0 0;house 5 0 0;house 5 0 0;house 5 0 0;lane 0 1;lane 1 2;lane 2 0;officer 2 9");
        for (int what = 0; what < 4; what++) {
            due.is("place " + what, x.round(0, 4, what), 0);
        }
        FireTax y = Due.land("duchy 50 0 0;house 9 0 0;house 40 0 0;house 40 0 0;lane 0 1;lane 0 2;lane 1 2;officer 0 99");
        due.is("sum", y.round(0, 2, -1), 40);
        due.is("1 first", y.round(0, 2, 0), 1);
        due.is("2 then", y.round(0, 2, 1), 2);
    }

    /** No other officer calls, whatever rule is in force; snow falls, and stomachs are full. */
    private static void others(Due due) {
        FireTax x = Due.land("duchy 50 5 0;house 40 0 0;officer 0 99;officer 0 30;snow 0", "call 1");
        due.is("two nights", x.round(0, 2, -1), 20 + 5);
        due.is("the other likewise", x.round(1, 2, -1), 25);
        x.night();
        due.is("has", x.officer(0, 2), 20);
        due.is("from now on", x.round(0, 2, -1), 5);
        FireTax y = Due.land("duchy 50 0 0;house 40 0 0;officer 0 25");
        due.is("what room there is", y.round(0, 3, -1), 25);
        due.is("least by room", y.span(0, 3, 0), 25);
    }

    private static void wrong(Due due) {
        FireTax x = Due.land("duchy 50 0 0;house 50 0 0;officer 0 99");
        for (int far : new int[] {-1, 1, 2, 3, Integer.MIN_VALUE, Integer.MAX_VALUE}) {
            due.is("round of " + far, x.round(far, 1, 0), -3);
            due.is("span of " + far, x.span(far, 1, 0), -1);
        }
        for (int far : new int[] {-1, 0, 5, Integer.MIN_VALUE, Integer.MAX_VALUE}) {
            due.is("round n " + far, x.round(0, far, -1), -3);
            due.is("span n " + far, x.span(0, far, 0), -1);
        }
        for (int far : new int[] {-2, 4, Integer.MIN_VALUE, Integer.MAX_VALUE}) {
            due.is("round what " + far, x.round(0, 4, far), -3);
            due.is("span what " + far, x.span(0, 1, far), -1);
        }
        due.is("span what -1", x.span(0, 1, -1), -1);
        due.is("span what 2", x.span(0, 1, 2), -1);
        due.is("no duchy", new FireTax().round(0, 1, -1), -3);
        due.is("no duchy to span", new FireTax().span(0, 1, 0), -1);
    }
}
