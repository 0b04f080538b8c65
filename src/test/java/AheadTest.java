/** Promises 16 and 17: ahead, freezes. */
public final class AheadTest {
    private static final String LAND = "duchy 10 2 5;house 40 2 3;house 20 0 0;house 12 9 2;lane 0 1;officer 0 5;snow 1";

    public static void main(String[] args) {
        Due due = new Due("AheadTest");
        ahead(due);
        asNights(due);
        freezes(due);
        wrong(due);
        due.end();
    }

    private static void ahead(Due due) {
        FireTax x = Due.land(LAND, "call 1 if house=1");
        int[] warmth = {20, 16, 11, 8, 6};
        int[] has = {0, 2, 3, 4, 4};
        for (int n = 0; n < warmth.length; n++) {
            due.is("warmth ahead " + n, x.ahead(1, n, 0), warmth[n]);
            due.is("has ahead " + n, x.ahead(0, n, 1), has[n]);
            due.is("frozen ahead " + n, x.ahead(0, n, 2), 0);
        }
        due.is("frozen ahead 5", x.ahead(-7, 5, 2), 1);
        FireTax two = Due.land("duchy 10 0 0;house 50 0 0;house 90 0 0;officer 0 99;officer 1 99", "call 1");
        due.is("the second officer", two.ahead(1, 1, 1), 9);
        due.is("the first officer", two.ahead(0, 1, 1), 5);
        due.is("nothing changed", x.count(8), 0);
        due.is("no act", x.count(13), 0);
        due.is("warmth now", x.house(1, 0), 20);
    }

    /** What is told ahead is what nights bring. */
    private static void asNights(Due due) {
        FireTax houses = Due.land(LAND, "call warmth");
        FireTax others = Due.land(LAND, "call warmth");
        for (int n = 0; n <= 100; n++) {
            FireTax x = Due.land(LAND, "call warmth");
            for (int h = 0; h < 3; h++) {
                due.is("house " + h + " ahead " + n, x.ahead(h, n, 0), houses.house(h, 0));
            }
            due.is("officer ahead " + n, x.ahead(0, n, 1), others.officer(0, 2));
            due.is("frozen ahead " + n, x.ahead(9, n, 2), Integer.bitCount(others.count(9)));
            houses.night();
            others.night();
        }
    }

    private static void freezes(Due due) {
        FireTax x = Due.land("duchy 0 2 5;house 40 2 3;house 20 0 0;house 10 99 2;house 4 0 0;snow 1");
        due.is("0", x.freezes(0), 19);
        due.is("1", x.freezes(1), 6);
        due.is("2", x.freezes(2), 100);
        due.is("3 at once", x.freezes(3), 0);
        x.night();
        x.night();
        due.is("the same night later", x.freezes(1), 6);
        due.is("a frozen one", x.freezes(3), -1);
        FireTax never = Due.land("duchy 0 0 5;house 5 0 0");
        due.is("never", never.freezes(0), -2);
        FireTax late = Due.land("duchy 0 1 1;house 99 99 1;officer 0 1");
        due.is("on the 198th", late.freezes(0), 99 + 98);
        late.fell(0, 1);
        due.is("wood is full", late.house(0, 1), 99);
        FireTax later = Due.land("duchy 0 1 1;house 99 99 2");
        due.is("on the 297th: not in 200", later.freezes(0), -2);
        for (int i = 0; i < 96; i++) {
            later.night();
        }
        due.is("not yet", later.freezes(0), -2);
        later.night();
        due.is("in the last of 200 nights", later.freezes(0), 296);
        FireTax taxed = Due.land("duchy 50 0 5;house 40 0 0;officer 0 200", "call 1");
        due.is("by the rule in force", taxed.freezes(0), 3);
        taxed.force(-1);
        due.is("by none", taxed.freezes(0), -2);
    }

    private static void wrong(Due due) {
        FireTax x = Due.land(LAND);
        for (int far : new int[] {-1, 101, Integer.MIN_VALUE, Integer.MAX_VALUE}) {
            for (int what = 0; what < 3; what++) {
                due.is("ahead n " + far, x.ahead(0, far, what), -2);
            }
            due.is("house " + far, x.ahead(far, 1, 0), -2);
            due.is("officer " + far, x.ahead(far, 1, 1), -2);
            due.is("freezes " + far, x.freezes(far), -1);
        }
        due.is("no such house", x.ahead(3, 1, 0), -2);
        due.is("no such officer", x.ahead(1, 1, 1), -2);
        due.is("what -1", x.ahead(0, 1, -1), -2);
        due.is("what 3", x.ahead(0, 1, 3), -2);
        due.is("freezes 3", x.freezes(3), -1);
        due.is("no duchy", new FireTax().ahead(0, 0, 2), -2);
        due.is("no duchy to freeze", new FireTax().freezes(0), -1);
        due.is("no houses", Due.land("duchy 0 0 0").ahead(0, 9, 2), 0);
    }
}
