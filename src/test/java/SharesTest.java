/** Promises 22, 23 and 24: levy, district, hats. */
public final class SharesTest {
    public static void main(String[] args) {
        Due due = new Due("SharesTest");
        levy(due);
        levyEdges(due);
        levySums(due);
        district(due);
        hats(due);
        wrong(due);
        due.end();
    }

    private static void parts(Due due, FireTax x, int much, int... parts) {
        for (int h = 0; h < parts.length; h++) {
            due.is("levy " + much + " of " + h, x.levy(much, h), parts[h]);
        }
    }

    private static void levy(Due due) {
        FireTax x = Due.land("duchy 0 0 0;house 40 0 0;house 20 0 0;house 10 0 0");
        parts(due, x, 10, 6, 3, 1);
        parts(due, x, 7, 4, 2, 1);
        parts(due, x, 1, 1, 0, 0);
        parts(due, x, 2, 1, 1, 0);
        parts(due, x, 0, 0, 0, 0);
        parts(due, x, 9999, 5714, 2857, 1428);
        FireTax alike = Due.land("duchy 0 0 0;house 5 0 0;house 5 0 0;house 0 0 0;house 5 0 0");
        parts(due, alike, 1, 1, 0, 0, 0);
        parts(due, alike, 2, 1, 1, 0, 0);
        parts(due, alike, 4, 2, 1, 0, 1);
        parts(due, alike, 5, 2, 2, 0, 1);
    }

    private static void levyEdges(Due due) {
        FireTax x = Due.land("duchy 0 0 9;house 30 0 0;house 8 0 0;house 10 0 0");
        parts(due, x, 48, 30, 8, 10);
        x.night();
        due.is("1 is frozen", x.count(9), 2);
        parts(due, x, 40, 30, 0, 10);
        FireTax half = Due.land("duchy 0 0 9;house 10 0 0;house 10 0 0;house 1 0 0");
        half.night();
        due.is("2 is frozen", half.count(9), 4);
        parts(due, half, 100, 50, 50, 0);
        parts(due, half, 9999, 5000, 4999, 0);
        FireTax one = Due.land("duchy 0 0 0;house 0 0 0;house 1 0 0");
        parts(due, one, 7, 0, 7);
        FireTax none = Due.land("duchy 0 9 0;house 0 0 0;house 0 0 0");
        parts(due, none, 9999, 0, 0);
        FireTax cold = Due.land("duchy 0 0 9;house 8 0 0");
        cold.night();
        parts(due, cold, 10, 0);
    }

    private static void levySums(Due due) {
        for (int much = 0; much <= 9999; much += 101) {
            FireTax x = Due.land("duchy 0 0 0;house 97 0 0;house 3 0 0;house 51 0 0;house 1 0 0;house 0 0 0;"
                    + "house 51 0 0;house 77 0 0;house 23 0 0");
            int sum = 0;
            for (int h = 0; h < 8; h++) {
                sum += x.levy(much, h);
            }
            due.is("all parts of " + much, sum, much);
        }
    }

    private static void district(Due due) {
        FireTax x = Due.land("duchy 0 1 9;house 5 0 0;house 5 0 0;house 50 0 0;house 50 0 0;house 50 0 0;house 50 0 0;"
                + "lane 0 1;lane 1 2;lane 2 3;lane 3 4;officer 0 1;officer 4 1;officer 4 1");
        int[] who = {0, 0, 0, 1, 1};
        int[] lanes = {0, 1, 2, 1, 0};
        for (int round = 0; round < 2; round++) {
            for (int h = 0; h < 5; h++) {
                due.is("who for " + h, x.district(h, 0), who[h]);
                due.is("lanes to " + h, x.district(h, 1), lanes[h]);
            }
            due.is("nobody", x.district(5, 0), -2);
            due.is("no lanes", x.district(5, 1), -2);
            x.night();
        }
        due.is("0 and 1 are frozen", x.count(9), 3);
        FireTax walks = Due.land("duchy 0 0 0;house 5 0 0;house 5 0 0;lane 0 1;officer 0 1", "call house");
        due.is("ahead of the night", walks.district(0, 1), 0);
        walks.night();
        due.is("from where they stand", walks.district(0, 1), 1);
        FireTax chain = Due.land("duchy 0 0 0;" + "house 1 1 1;".repeat(8) + "lane 0 1;lane 1 2;lane 2 3;lane 3 4;"
                + "lane 4 5;lane 5 6;lane 6 7;officer 7 1");
        due.is("seven lanes", chain.district(0, 1), 7);
        due.is("no officers", Due.land("duchy 0 0 0;house 1 1 1").district(0, 0), -2);
    }

    private static void hats(Due due) {
        FireTax x = Due.land("duchy 0 0 0;house 99 0 0;house 5 0 0;house 5 0 0;house 5 0 0;house 5 0 0;"
                + "hat 0 5;hat 1 20;hat 2 10;hat 3 20;hat 4 15");
        int[] much = {1, 5, 6, 20, 21, 30, 35, 40, 41, 55, 56, 65, 66, 70, 71};
        int[] count = {1, 1, 1, 1, 2, 2, 2, 2, 3, 3, 4, 4, 5, 5, -2};
        int[] set = {1, 1, 2, 2, 3, 6, 10, 10, 11, 26, 27, 30, 31, 31, -2};
        for (int i = 0; i < much.length; i++) {
            due.is("how many for " + much[i], x.hats(much[i], 0), count[i]);
            due.is("the set for " + much[i], x.hats(much[i], 1), set[i]);
        }
        x.hide(0, 94);
        due.is("more is hidden", x.hats(99, 1), 1);
        due.is("all of it", x.hats(164, 1), 31);
        due.is("400", x.hats(400, 0), -2);
        StringBuilder eight = new StringBuilder("duchy 0 0 0" + ";house 1 1 1".repeat(8));
        for (int h = 0; h < 8; h++) {
            eight.append(";hat ").append(h).append(" 50");
        }
        FireTax full = Due.land(eight.toString());
        due.is("all eight", full.hats(400, 0), 8);
        due.is("all eight as bits", full.hats(400, 1), 255);
        due.is("seven", full.hats(350, 1), 127);
        due.is("nothing hidden", Due.land("duchy 0 0 0;house 1 1 1").hats(1, 0), -2);
        due.is("no houses", Due.land("duchy 0 0 0").hats(1, 1), -2);
        FireTax cold = Due.land("duchy 0 1 9;house 1 0 0;hat 0 7");
        cold.night();
        due.is("in a frozen one too", cold.hats(7, 1), 1);
    }

    private static void wrong(Due due) {
        FireTax x = Due.land("duchy 0 0 0;house 9 0 0;hat 0 50;officer 0 1");
        for (int far : new int[] {-1, 1, 8, Integer.MIN_VALUE, Integer.MAX_VALUE}) {
            due.is("levy of " + far, x.levy(1, far), -1);
            due.is("district of " + far, x.district(far, 0), -1);
        }
        for (int far : new int[] {-1, 10000, Integer.MIN_VALUE, Integer.MAX_VALUE}) {
            due.is("levy much " + far, x.levy(far, 0), -1);
        }
        for (int far : new int[] {-1, 0, 401, Integer.MIN_VALUE, Integer.MAX_VALUE}) {
            due.is("hats much " + far, x.hats(far, 0), -1);
        }
        for (int far : new int[] {-1, 2, Integer.MIN_VALUE, Integer.MAX_VALUE}) {
            due.is("district what " + far, x.district(0, far), -1);
            due.is("hats what " + far, x.hats(1, far), -1);
        }
        FireTax none = new FireTax();
        due.is("no duchy, levy", none.levy(1, 0), -1);
        due.is("no duchy, district", none.district(0, 0), -1);
        due.is("no duchy, hats", none.hats(1, 0), -1);
    }
}
