/** Promises 16 to 21 and 25: each bound of what is asked about nights to come, just within and just beyond. */
public final class TrialBoundsTest {
    /** Officers can go from house 7 to any other, and back; half of 10, 20 .. 80 is taken. */
    private static final String STAR = "duchy 50 0 0;house 10 0 0;house 20 0 0;house 30 0 0;house 40 0 0;house 50 0 0;"
            + "house 60 0 0;house 70 0 0;house 80 0 0;lane 7 0;lane 7 1;lane 7 2;lane 7 3;lane 7 4;lane 7 5;lane 7 6;"
            + "officer 7 200;officer 0 200;officer 7 1";

    public static void main(String[] args) {
        Due due = new Due("TrialBoundsTest");
        aheadNights(due);
        aheadOfWhom(due);
        freezesIn200(due);
        freezesOfWhom(due);
        roundPlaces(due);
        roundOfWhom(due);
        roundToFreeze(due);
        spans(due);
        rowsThatBreakOff(due);
        logsFrom0To99(due);
        logsOfWhom(due);
        rateFrom0To100(due);
        rateOfOthers(due);
        loanFrom0ToAll(due);
        loanOfWhom(due);
        due.end();
    }

    /** AHEAD n NIGHTS (0 to 100). */
    private static void aheadNights(Due due) {
        FireTax x = Due.land("duchy 10 1 5;house 90 9 9;house 9 0 0;officer 0 99;snow 99", "call 1");
        FireTax y = Due.land("duchy 10 1 5;house 90 9 9;house 9 0 0;officer 0 99;snow 99", "call 1");
        for (int n = 0; n <= 100; n++) {
            due.is("warmth " + n, x.ahead(0, n, 0), y.house(0, 0));
            due.is("has " + n, x.ahead(0, n, 1), y.officer(0, 2));
            due.is("frozen " + n, x.ahead(0, n, 2), Integer.bitCount(y.count(9)));
            y.night();
        }
        for (int what = 0; what <= 2; what++) {
            int of = what;
            new Edge(due, "nights, what " + what, n -> x.ahead(0, n, of)).refuses(0, 100, -2);
        }
    }

    /** WARMTH of the HOUSE, what the OFFICER has, FROZEN ones (of no number); -2 without these, or a DUCHY. */
    private static void aheadOfWhom(Due due) {
        FireTax x = Due.land(STAR, "call 1 if here=1");
        new Edge(due, "house", h -> x.ahead(h, 1, 0)).answers(0, 5).answers(6, 70).answers(7, 40).refuses(0, 7, -2);
        new Edge(due, "officer", o -> x.ahead(o, 1, 1)).answers(0, 40).answers(1, 5).answers(2, 0).refuses(0, 2, -2);
        new Edge(due, "of no number", k -> x.ahead(k, 1, 2)).answers(0, 0).answers(7, 0).refuses(0, 7, 0);
        new Edge(due, "what", what -> x.ahead(0, 1, what)).answers(0, 5).answers(1, 40).answers(2, 0).refuses(0, 2, -2);
        FireTax none = new FireTax();
        FireTax empty = Due.land("duchy 0 0 0");
        for (int what = 0; what <= 2; what++) {
            due.is("without a duchy " + what, none.ahead(0, 0, what), -2);
            due.is("without houses " + what, empty.ahead(0, 0, what), what == 2 ? 0 : -2);
        }
    }

    /** The NIGHT in which it does, in 200 NIGHTS; -2: in none of these. It has lost all behind warmth + 2 * wood nights. */
    private static void freezesIn200(Due due) {
        String[] houses = {"0 0 0", "1 0 0", "2 0 0", "99 0 0", "98 50 2", "99 50 2", "98 51 2", "99 51 2", "98 52 2"};
        int[] night = {0, 0, 1, 98, 197, 198, 199, -2, -2};
        for (int i = 0; i < houses.length; i++) {
            FireTax x = Due.land("duchy 0 1 1;house " + houses[i]);
            due.is("house " + houses[i], x.freezes(0), night[i]);
        }
        FireTax late = Due.land("duchy 0 1 1;house 98 52 2");
        late.night();
        due.is("on 201: not in 200 from 1 on", late.freezes(0), -2);
        late.night();
        due.is("on 201: the last of 200 from 2 on", late.freezes(0), 201);
        FireTax snow = Due.land("duchy 0 1 1;house 99 51 2;snow 99");
        due.is("by snow a night sooner", snow.freezes(0), 199);
        due.is("never", Due.land("duchy 0 0 1;house 1 0 0").freezes(0), -2);
        due.is("by FREEZE 0 never", Due.land("duchy 0 20 0;house 0 0 0").freezes(0), -2);
    }

    /** A HOUSE that is not FROZEN; NONE without these. */
    private static void freezesOfWhom(Due due) {
        FireTax x = Due.land("duchy 0 1 5;house 5 0 0;house 6 0 0;house 50 0 0");
        new Edge(due, "house", x::freezes).answers(0, 0).answers(1, 1).answers(2, 45).refuses(0, 2, -1);
        x.night();
        new Edge(due, "house", x::freezes).answers(0, -1).answers(1, 1).answers(2, 45);
        x.night();
        due.is("frozen now", x.freezes(1), -1);
        due.is("without a duchy", new FireTax().freezes(0), -1);
    }

    /** n NIGHTS (1 to 4); what NONE: how much, 0 to 3: the HOUSE in that place (-2: so many there are not). */
    private static void roundPlaces(Due due) {
        FireTax x = Due.land(STAR);
        int[] sum = {40, 75, 105, 125};
        int[][] row = {{7}, {6, 7}, {5, 7, 6}, {5, 7, 6, 7}};
        for (int n = 1; n <= 4; n++) {
            int nights = n;
            Edge what = new Edge(due, "what of " + n, w -> x.round(0, nights, w)).answers(-1, sum[n - 1]);
            for (int place = 0; place < 4; place++) {
                what.answers(place, place < n ? row[n - 1][place] : -2);
            }
            what.refuses(-1, 3, -3);
        }
        for (int what = -1; what <= 3; what++) {
            int of = what;
            new Edge(due, "nights, what " + what, n -> x.round(0, n, of)).refuses(1, 4, -3);
        }
    }

    private static void roundOfWhom(Due due) {
        FireTax x = Due.land(STAR);
        new Edge(due, "officer", o -> x.round(o, 1, -1)).answers(0, 40).answers(1, 40).answers(2, 1).refuses(0, 2, -3);
        due.is("from 0", x.round(1, 2, -1), 75);
        due.is("a full stomach: the first row", x.round(2, 1, 0), 0);
        due.is("one officer alone", Due.land("duchy 9 0 0;house 50 0 0;officer 0 9").round(1, 1, -1), -3);
        due.is("without officers", Due.land("duchy 9 0 0;house 50 0 0").round(0, 1, -1), -3);
        due.is("without a duchy", new FireTax().round(0, 1, -1), -3);
    }

    /** Behind which no HOUSE is FROZEN that is not now; -2: there is no such row. */
    private static void roundToFreeze(Due due) {
        for (int freeze = 8; freeze <= 12; freeze++) {
            FireTax x = Due.land("duchy 50 0 " + freeze + ";house 20 0 0;officer 0 99");
            for (int what = -1; what < 4; what++) {
                int answer = freeze > 10 ? -2 : what < 0 ? 10 : what == 0 ? 0 : -2;
                due.is("FREEZE " + freeze + " what " + what, x.round(0, 1, what), answer);
            }
            due.is("whoever freezes", x.span(0, 1, 1), 10);
        }
        FireTax other = Due.land("duchy 50 1 9;house 50 0 0;house 11 0 0;officer 0 99");
        due.is("another at FREEZE", other.round(0, 2, -1), 25 + 12);
        due.is("another below it", other.round(0, 3, -1), -2);
        other.night();
        other.night();
        other.night();
        due.is("another that is now", other.round(0, 1, -1), 23);
    }

    /** SPAN: the least, the most they take by any row; what 0, 1; NONE without these. */
    private static void spans(Due due) {
        FireTax x = Due.land(STAR);
        int[] least = {5, 7, 8, 9};
        int[] most = {40, 75, 105, 125};
        for (int n = 1; n <= 4; n++) {
            due.is("least of " + n, x.span(0, n, 0), least[n - 1]);
            due.is("most of " + n, x.span(0, n, 1), most[n - 1]);
        }
        new Edge(due, "nights", n -> x.span(0, n, 0)).refuses(1, 4, -1);
        new Edge(due, "what", what -> x.span(0, 1, what)).refuses(0, 1, -1);
        new Edge(due, "officer", o -> x.span(o, 1, 1)).answers(0, 40).answers(1, 40).answers(2, 1).refuses(0, 2, -1);
        due.is("without a duchy", new FireTax().span(0, 1, 0), -1);
        due.is("without officers", Due.land("duchy 9 0 0;house 50 0 0").span(0, 1, 0), -1);
    }

    /** A house that freezes ends a row: -2, there is no row of so many. */
    private static void rowsThatBreakOff(Due due) {
        FireTax x = Due.land("duchy 50 0 11;house 20 0 0;officer 0 99");
        due.is("one night", x.span(0, 1, 0), 10);
        for (int n = 2; n <= 4; n++) {
            due.is("no least of " + n, x.span(0, n, 0), -2);
            due.is("no most of " + n, x.span(0, n, 1), -2);
            due.is("no round of " + n, x.round(0, n, -1), -2);
        }
        FireTax cold = Due.land("duchy 50 1 9;house 10 0 0;officer 0 99", "call 1");
        due.is("on the night itself", cold.span(0, 1, 1), 5);
        cold.night();
        due.is("frozen: none", cold.span(0, 1, 1), -2);
        due.is("frozen: no round", cold.round(0, 1, 0), -2);
        FireTax way = Due.land("duchy 50 0 11;house 20 0 0;house 99 0 0;lane 0 1;officer 0 200");
        due.is("off it to the other", way.span(0, 2, 0), 10 + 49);
        due.is("at the other", way.span(0, 2, 1), 49 + 25);
    }

    /** n NIGHTS (1 to 60): the least WOOD, 0 to 99; -2: by none. A log a night is needed by one that has just FREEZE. */
    private static void logsFrom0To99(Due due) {
        FireTax x = Due.land("duchy 0 1 1;house 1 0 1;house 61 0 0;house 60 0 0");
        for (int n = 1; n <= 60; n++) {
            due.is("a log a night for " + n, x.logs(0, n), n);
            due.is("none for " + n, x.logs(1, n), 0);
            due.is("by none for " + n, x.logs(2, n), n < 60 ? 0 : -2);
        }
        new Edge(due, "nights", n -> x.logs(0, n)).refuses(1, 60, -1);
        FireTax by = Due.land("duchy 100 0 5;house 50 0 0;officer 0 200", "call 1 if wood<99", "call 1 if wood<100", "call 1 if wood<98",
                "call 1 if wood>0");
        int[] least = {99, -2, 98, 0};
        for (int r = 0; r < 4; r++) {
            by.force(r);
            due.is("by rule " + r, by.logs(0, 1), least[r]);
        }
        due.is("in place of what it has", Due.land("duchy 0 1 1;house 1 99 1").logs(0, 60), 60);
    }

    private static void logsOfWhom(Due due) {
        FireTax x = Due.land("duchy 0 1 5;house 5 0 9;house 6 0 0");
        new Edge(due, "house", h -> x.logs(h, 1)).answers(0, 1).answers(1, 0).refuses(0, 1, -1);
        x.night();
        due.is("a frozen one", x.logs(0, 1), -1);
        due.is("at FREEZE", x.logs(1, 1), -2);
        due.is("without a duchy", new FireTax().logs(0, 1), -1);
    }

    /** n NIGHTS (1 to 60): the greatest TENTH, 0 to 100; -2: by none. Half of the TENTH is taken of 50. */
    private static void rateFrom0To100(Due due) {
        for (int freeze = 0; freeze <= 50; freeze++) {
            FireTax x = Due.land("duchy 7 0 " + freeze + ";house 50 0 0;officer 0 200", "call 1");
            due.is("FREEZE " + freeze, x.rate(1), Math.min(100, 2 * (50 - freeze) + 1));
        }
        FireTax zero = Due.land("duchy 7 10 50;house 90 2 20;officer 0 200", "call 1");
        zero.force(-1);
        zero.night();
        zero.night();
        zero.force(0);
        due.is("110 to 50 in 6 nights", zero.rate(6), 0);
        due.is("below it in 7", zero.rate(7), -2);
        FireTax oneShort = Due.land("duchy 7 10 50;house 99 1 20;officer 0 200", "call 1");
        due.is("109 to 49 by 0: by none, nor by less than 0", oneShort.rate(7), -2);
        FireTax x = Due.land("duchy 7 1 1;house 61 0 0");
        new Edge(due, "nights", x::rate).answers(1, 100).answers(59, 100).answers(60, 100).refuses(1, 60, -1);
        FireTax y = Due.land("duchy 7 1 1;house 60 0 0");
        new Edge(due, "nights", y::rate).answers(59, 100).answers(60, -2).refuses(1, 60, -1);
        due.is("without a duchy", new FireTax().rate(1), -1);
        due.is("without houses", Due.land("duchy 7 20 50").rate(60), 100);
    }

    /** No HOUSE that is not FROZEN now. */
    private static void rateOfOthers(Due due) {
        FireTax x = Due.land("duchy 7 1 9;house 50 0 0;house 9 0 0;officer 0 200", "call 1");
        due.is("one freezes", x.rate(1), -2);
        x.night();
        due.is("is frozen now", x.count(9), 2);
        due.is("46 to 9, 1 lost", x.rate(1), 80);
        due.is("the TENTH stays", x.count(0), 7);
    }

    /** n NIGHTS (1 to 60): the least to LEND now (0 too), so that neither is FROZEN then; -2: by none. */
    private static void loanFrom0ToAll(Due due) {
        for (int to = 28; to <= 66; to++) {
            FireTax x = Due.land("duchy 0 1 5;house 99 0 0;house " + to + " 0 0;lane 0 1");
            int least = Math.max(0, 65 - to);
            due.is("to one that has " + to, x.loan(0, 1, 60), least <= 34 ? least : -2);
        }
        for (int has = 1; has <= 9; has++) {
            FireTax x = Due.land("duchy 0 5 5;house " + has + " 9 20;house 3 0 0;lane 0 1");
            due.is("of " + has + " seven", x.loan(0, 1, 1), has < 7 ? -2 : 7);
        }
        FireTax x = Due.land("duchy 0 0 0;house 0 0 0;house 0 0 0;lane 0 1");
        new Edge(due, "nights", n -> x.loan(0, 1, n)).answers(1, 0).answers(60, 0).refuses(1, 60, -1);
        FireTax y = Due.land("duchy 0 1 1;house 99 0 0;house 60 0 0;lane 0 1");
        new Edge(due, "nights", n -> y.loan(0, 1, n)).answers(59, 0).answers(60, 1).refuses(1, 60, -1);
    }

    /** From a HOUSE to one beside it, neither FROZEN. */
    private static void loanOfWhom(Due due) {
        FireTax x = Due.land("duchy 0 1 9;house 50 0 0;house 50 0 0;house 9 0 0;house 10 0 0;lane 0 1;lane 1 2;lane 1 3");
        new Edge(due, "from", h -> x.loan(h, 1, 1)).answers(0, 0).answers(1, -1).answers(2, -2).answers(3, 0).refuses(0, 3, -1);
        new Edge(due, "to", h -> x.loan(1, h, 1)).answers(0, 0).answers(1, -1).answers(2, 1).answers(3, 0).refuses(0, 3, -1);
        due.is("not beside", x.loan(0, 2, 1), -1);
        x.night();
        due.is("from a frozen one", x.loan(2, 1, 1), -1);
        due.is("to a frozen one", x.loan(1, 2, 1), -1);
        due.is("to one at FREEZE", x.loan(1, 3, 1), 1);
        due.is("without a duchy", new FireTax().loan(0, 1, 1), -1);
    }
}
