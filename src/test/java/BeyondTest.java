/**
 * Promises 9 and 14 where NIGHT is 999 and the HILL has 99999. Neither can be come to within the 512 calls for which the
 * document promises answers, so the sentences are held against a class only if it goes on behind them as ahead of them.
 */
public final class BeyondTest {
    /** Eight houses at the corners of a cube. */
    private static final String CUBE = "duchy 100 0 0" + ";house 99 99 20".repeat(8) + ";lane 0 1;lane 1 3;lane 3 2;lane 2 0;lane 4 5;"
            + "lane 5 7;lane 7 6;lane 6 4;lane 0 4;lane 1 5;lane 2 6;lane 3 7;officer 0 200;officer 3 200;officer 6 200";

    public static void main(String[] args) {
        Due due = new Due("BeyondTest");
        if (goesOn(due)) {
            night999(due);
            beyond999(due);
            hill99999(due);
        } else {
            System.out.println("BeyondTest: the answers behind the 512th call are others, as they may be");
        }
        due.end();
    }

    /** Whether the calls behind the 512th are answered like those ahead of it. */
    private static boolean goesOn(Due due) {
        FireTax x = Due.land("duchy 0 0 0");
        for (int night = 0; night < 500; night++) {
            due.is("night " + night, x.night(), 0);
        }
        due.is("500 nights", x.count(8), 500);
        boolean same = true;
        for (int night = 500; night < 600; night++) {
            same = same && x.night() == 0 && x.count(8) == night + 1;
        }
        return same;
    }

    /** NIGHT is 1 more (999 at most); NONE, and nothing happens, at NIGHT 999. */
    private static void night999(Due due) {
        FireTax x = Due.land("duchy 10 0 0;house 50 0 0;officer 0 99", "call 1 if night>=998");
        for (int night = 0; night < 998; night++) {
            due.is("night " + night, x.night(), 0);
        }
        due.is("night 998", x.count(8), 998);
        due.is("the last night", x.night(), 5);
        due.is("night 999", x.count(8), 999);
        due.is("no more", x.night(), -1);
        due.is("999 still", x.count(8), 999);
        due.is("nothing happened", x.house(0, 0), 45);
        due.is("twenty acts", x.count(13), 20);
        due.is("an image of it", x.image(0), 999);
        due.is("undone", x.undo(), 19);
        due.is("night 998 again", x.count(8), 998);
        due.is("once more", x.night(), 5);
        due.is("999 again", x.count(8), 999);
        due.is("other acts go on", x.fell(0, 1), 1);
        due.is("back", x.back(0), 999);
        due.is("no more again", x.night(), -1);
    }

    /** NIGHTS go on by the RULE IN FORCE, beyond 999, too. */
    private static void beyond999(Due due) {
        FireTax x = Due.land("duchy 50 0 5;house 8 0 0;officer 0 99", "call 1 if night=1001", "call 1 if night>998 and since=99");
        for (int night = 0; night < 999; night++) {
            x.night();
        }
        due.is("night 999", x.count(8), 999);
        due.is("ahead of 1001", x.ahead(0, 2, 1), 0);
        due.is("behind 1001", x.ahead(0, 3, 1), 4);
        due.is("behind 1098", x.ahead(0, 100, 1), 4);
        due.is("the night it freezes", x.freezes(0), 1001);
        due.is("frozen ones", x.ahead(0, 3, 2), 1);
        due.is("two nights by any rate", x.rate(2), 100);
        due.is("three nights by 49", x.rate(3), 49);
        due.is("logs for two nights", x.logs(0, 2), 0);
        due.is("none for three", x.logs(0, 3), -2);
        due.is("winters", x.winters(1, 3, 0, 0), 1);
        due.is("a round", x.round(0, 1, -1), -2);
        due.is("a span", x.span(0, 1, 1), 4);
        x.force(1);
        due.is("on 999 itself", x.freezes(0), 999);
    }

    /** On the HILL, 99999 at most. */
    private static void hill99999(Due due) {
        FireTax x = Due.land(CUBE, "call warmth");
        int sum = 0;
        int above = 0;
        for (int night = 0; night < 999 && above < 3; night++) {
            x.night();
            for (int o = 0; o < 3; o++) {
                int has = x.officer(o, 2);
                sum += has;
                due.is("on the hill on " + night, x.spit(o), has == 0 ? -1 : Math.min(99999, sum));
                due.is("empty", x.officer(o, 2), 0);
            }
            above += sum > 99999 ? 1 : 0;
            for (int h = 0; h < 8; h++) {
                x.fell(h, 9);
            }
        }
        due.is("it came to that", above, 3);
        due.is("99999", x.count(10), 99999);
    }
}
