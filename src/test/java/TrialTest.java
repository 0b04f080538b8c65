/** Promises 20, 21 and 25: logs, rate, loan. */
public final class TrialTest {
    public static void main(String[] args) {
        Due due = new Due("TrialTest");
        logs(due);
        logsByTheRule(due);
        rate(due);
        loan(due);
        loanIsTheLeast(due);
        wrong(due);
        due.end();
    }

    private static void logs(Due due) {
        FireTax x = Due.land("duchy 0 2 5;house 11 50 3;house 20 0 0;house 10 0 20");
        due.is("three nights without", x.logs(0, 3), 0);
        due.is("four nights: 11 + 3 - 8", x.logs(0, 4), 1);
        due.is("ten nights: 11 + 15 - 20", x.logs(0, 10), 5);
        due.is("sixty nights", x.logs(0, 60), 38);
        due.is("no heat", x.logs(1, 7), 0);
        due.is("by none", x.logs(1, 8), -2);
        due.is("sixty nights: 10 + 20w - 120", x.logs(2, 60), 6);
        due.is("nothing changed", x.house(0, 1), 50);
        due.is("no act", x.count(13), 0);
        FireTax snowy = Due.land("duchy 0 2 5;house 9 0 2;snow 0;snow 1");
        due.is("snow", snowy.logs(0, 2), 2);
        snowy.night();
        due.is("from now on: 5 + 2 - 4", snowy.logs(0, 1), -2);
    }

    /** What it has in wood is told to the rule: it is called at only below 3 logs. */
    private static void logsByTheRule(Due due) {
        FireTax x = Due.land("duchy 100 0 5;house 50 0 0;officer 0 200", "call 1 if wood<3");
        due.is("one night", x.logs(0, 1), 3);
        due.is("three nights", x.logs(0, 3), 5);
        x.force(-1);
        due.is("by no rule", x.logs(0, 3), 0);
        FireTax z = Due.land("duchy 100 0 5;house 50 0 0;officer 0 200", "call 1 if wood<99");
        due.is("99 alone", z.logs(0, 1), 99);
        due.is("not two nights", z.logs(0, 2), -2);
    }

    private static void rate(Due due) {
        FireTax x = Due.land("duchy 99 1 9;house 40 0 0;house 50 0 0;lane 0 1;officer 0 200", "call 1 if house=0");
        due.is("one night: 30 of 40", x.rate(1), 77);
        due.is("two nights: 20 of 40, 9 of 19", x.rate(2), 52);
        due.is("the tenth stays", x.count(0), 99);
        x.force(-1);
        due.is("by no rule", x.rate(31), 100);
        due.is("0 freezes anyhow", x.rate(32), -2);
        for (int i = 0; i < 32; i++) {
            x.night();
        }
        due.is("0 is frozen", x.count(9), 1);
        due.is("one that is frozen now does not count", x.rate(9), 100);
        due.is("1 freezes", x.rate(10), -2);
        FireTax z = Due.land("duchy 0 0 9;house 10 0 0;officer 0 200", "call 1 if tenth>1");
        due.is("tenth by the one in place", z.rate(1), 19);
        FireTax half = Due.land("duchy 50 0 50;house 99 0 0;officer 0 200", "call 1");
        due.is("49 of 99", half.rate(1), 50);
        FireTax zero = Due.land("duchy 50 10 50;house 90 2 20;officer 0 200", "call 1");
        zero.force(-1);
        zero.night();
        zero.night();
        zero.force(0);
        due.is("1 of a hundred of 110 would be too much", zero.rate(6), 0);
        due.is("and nothing too", zero.rate(7), -2);
        FireTax gap = Due.land("duchy 0 0 9;house 99 0 0;officer 0 200", "call 1 if tenth<90");
        due.is("the greatest, whatever lies below", gap.rate(1), 100);
        due.is("no houses", Due.land("duchy 0 0 9").rate(60), 100);
    }

    private static void loan(Due due) {
        FireTax x = Due.land("duchy 0 2 5;house 40 2 3;house 20 0 0;house 10 0 0;lane 0 1;lane 1 2;snow 1");
        due.is("none for one night", x.loan(0, 1, 1), 0);
        due.is("seven nights", x.loan(0, 1, 7), 1);
        due.is("eight nights", x.loan(0, 1, 8), 3);
        due.is("not beside", x.loan(0, 2, 1), -1);
        due.is("itself", x.loan(0, 0, 1), -1);
        due.is("from one that has little", x.loan(2, 1, 3), -2);
        due.is("nothing changed", x.house(0, 0), 40);
        due.is("no act", x.count(13), 0);
        due.is("too long for both", x.loan(0, 1, 60), -2);
        x.night();
        x.night();
        due.is("2 has 4", x.house(2, 0), 4);
        due.is("2 is frozen", x.count(9), 4);
        due.is("to a frozen one", x.loan(1, 2, 1), -1);
        due.is("from a frozen one", x.loan(2, 1, 1), -1);
        FireTax all = Due.land("duchy 0 0 0;house 9 0 0;house 0 0 0;lane 0 1");
        due.is("0 too", all.loan(0, 1, 60), 0);
        FireTax exact = Due.land("duchy 0 1 5;house 12 0 0;house 0 0 0;lane 0 1");
        due.is("just enough", exact.loan(0, 1, 1), 6);
        due.is("one more night", exact.loan(0, 1, 2), -2);
        FireTax whole = Due.land("duchy 0 0 0;house 9 0 0;house 0 0 0;lane 0 1;officer 1 20", "call 1");
        due.is("freezes nobody", whole.loan(0, 1, 9), 0);
        FireTax allOfIt = Due.land("duchy 0 5 5;house 7 9 20;house 3 0 0;lane 0 1");
        due.is("all it has", allOfIt.loan(0, 1, 1), 7);
        FireTax more = Due.land("duchy 0 5 5;house 6 9 20;house 3 0 0;lane 0 1");
        due.is("more than it has", more.loan(0, 1, 1), -2);
    }

    /** Whoever has 30 to 34 is called at and freezes: the least that helps is not the end of what helps. */
    private static void loanIsTheLeast(Due due) {
        FireTax x = Due.land("duchy 100 0 5;house 60 0 0;house 30 0 0;lane 0 1;officer 1 200",
                "call 1 if house=1 and [warmth>=30 and warmth<35 or warmth>39]");
        due.is("the least", x.loan(0, 1, 1), 5);
        due.is("and then it is so", x.lend(0, 1, 5), 35);
        due.is("nothing more", x.loan(0, 1, 1), 0);
        FireTax y = Due.land("duchy 100 0 5;house 60 0 0;house 30 0 0;lane 0 1;officer 1 200", "call 1 if warmth=30");
        due.is("all by one", y.loan(0, 1, 60), 1);
    }

    private static void wrong(Due due) {
        FireTax x = Due.land("duchy 0 0 5;house 9 0 0;house 1 0 0;lane 0 1");
        x.night();
        due.is("1 is frozen", x.count(9), 2);
        due.is("logs of a frozen one", x.logs(1, 1), -1);
        for (int far : new int[] {-1, 0, 61, Integer.MIN_VALUE, Integer.MAX_VALUE}) {
            due.is("logs n " + far, x.logs(0, far), -1);
            due.is("rate n " + far, x.rate(far), -1);
            due.is("loan n " + far, x.loan(0, 1, far), -1);
        }
        for (int far : new int[] {-1, 2, 8, Integer.MIN_VALUE, Integer.MAX_VALUE}) {
            due.is("logs of " + far, x.logs(far, 1), -1);
            due.is("loan from " + far, x.loan(far, 0, 1), -1);
            due.is("loan to " + far, x.loan(0, far, 1), -1);
        }
        due.is("logs 60", x.logs(0, 60), 0);
        due.is("rate 60", x.rate(60), 100);
        FireTax none = new FireTax();
        due.is("no duchy, logs", none.logs(0, 1), -1);
        due.is("no duchy, rate", none.rate(1), -1);
        due.is("no duchy, loan", none.loan(0, 1, 1), -1);
    }
}
