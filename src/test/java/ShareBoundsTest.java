/** Promises 22 to 24: each bound of levy, district and hats, just within and just beyond. */
public final class ShareBoundsTest {
    public static void main(String[] args) {
        Due due = new Due("ShareBoundsTest");
        levyFrom0To9999(due);
        levyDownwards(due);
        levyOfEight(due);
        levyOfTheFrozen(due);
        levyOfNoWarmth(due);
        districtOfWhom(due);
        districtLanes(due);
        districtOfSeveral(due);
        hatsFrom1To400(due);
        hatsAboutEachSum(due);
        hatsOfSeveralSets(due);
        due.end();
    }

    /** LEVY of so much (0 to 9999). */
    private static void levyFrom0To9999(Due due) {
        FireTax x = Due.land("duchy 0 0 0;house 99 0 0;house 0 0 0");
        new Edge(due, "much", much -> x.levy(much, 0)).answers(0, 0).answers(1, 1).answers(9998, 9998).answers(9999, 9999)
                .refuses(0, 9999, -1);
        new Edge(due, "house", h -> x.levy(9, h)).answers(0, 9).answers(1, 0).refuses(0, 1, -1);
        FireTax cold = Due.land("duchy 0 0 5;house 20 0 0;house 30 0 0;house 4 0 0");
        cold.night();
        due.is("house 2 is frozen", cold.count(9), 4);
        for (int h = 0; h < 3; h++) {
            int house = h;
            new Edge(due, "much, parted, of " + h, much -> cold.levy(much, house)).refuses(0, 9999, -1);
        }
        FireTax hot = Due.land("duchy 0 0 0;house 99 99 20;house 99 99 20");
        for (int i = 0; i < 45; i++) {
            hot.night();
        }
        due.is("two that have 999", hot.levy(9999, 0), 5000);
        due.is("the second", hot.levy(9999, 1), 4999);
        due.is("without a duchy", new FireTax().levy(0, 0), -1);
        due.is("without houses", Due.land("duchy 0 0 0").levy(0, 0), -1);
    }

    /** Each its part downwards; what is left, one each, to those whose part lost most by that, of several the least first. */
    private static void levyDownwards(Due due) {
        FireTax x = Due.land("duchy 0 0 0;house 1 0 0;house 2 0 0;house 3 0 0");
        int[][] parts = {{0, 0, 0}, {0, 0, 1}, {0, 1, 1}, {1, 1, 1}, {1, 1, 2}, {1, 2, 2}, {1, 2, 3}, {1, 2, 4}};
        for (int much = 0; much < parts.length; much++) {
            for (int h = 0; h < 3; h++) {
                due.is("levy " + much + " of " + h, x.levy(much, h), parts[much][h]);
            }
        }
        FireTax alike = Due.land("duchy 0 0 0;house 5 0 0;house 0 0 0;house 5 0 0;house 5 0 0");
        int[] who = {0, 2, 3};
        for (int much = 0; much <= 12; much++) {
            for (int i = 0; i < 3; i++) {
                due.is("alike " + much + " of " + who[i], alike.levy(much, who[i]), much / 3 + (i < much % 3 ? 1 : 0));
            }
            due.is("of one that has nothing", alike.levy(much, 1), 0);
        }
    }

    /** Among eight that have wood and hats too, which are nothing to it. */
    private static void levyOfEight(Due due) {
        StringBuilder text = new StringBuilder("duchy 0 0 0" + ";house 10 99 0".repeat(8));
        for (int h = 0; h < 8; h++) {
            text.append(";hat ").append(h).append(" 50");
        }
        FireTax x = Due.land(text.toString());
        for (int much = 0; much <= 17; much++) {
            for (int h = 0; h < 8; h++) {
                due.is("levy " + much + " of " + h, x.levy(much, h), much / 8 + (h < much % 8 ? 1 : 0));
            }
        }
        new Edge(due, "house", h -> x.levy(8, h)).answers(0, 1).answers(7, 1).refuses(0, 7, -1);
    }

    /** Among HOUSES that are not FROZEN (0 if it is FROZEN). */
    private static void levyOfTheFrozen(Due due) {
        FireTax x = Due.land("duchy 0 1 9;house 10 0 0;house 9 0 0;house 10 0 0");
        due.is("not frozen yet", x.levy(29, 1), 9);
        x.night();
        due.is("frozen", x.count(9), 2);
        due.is("0 of it", x.levy(29, 1), 0);
        due.is("more of the first", x.levy(29, 0), 15);
        due.is("and the third", x.levy(29, 2), 14);
        x.night();
        due.is("all frozen", x.count(9), 7);
        for (int h = 0; h < 3; h++) {
            due.is("nothing of " + h, x.levy(9999, h), 0);
        }
    }

    /** Nothing, if all WARMTH is 0; all, if it is 1. */
    private static void levyOfNoWarmth(Due due) {
        FireTax x = Due.land("duchy 0 1 0;house 1 0 0;house 0 0 0");
        due.is("all of 1", x.levy(9999, 0), 9999);
        due.is("none of 0", x.levy(9999, 1), 0);
        x.night();
        due.is("nothing", x.levy(9999, 0), 0);
        due.is("nothing either", x.levy(9999, 1), 0);
        due.is("refused all the same", x.levy(10000, 0), -1);
    }

    /** DISTRICT of a HOUSE, what 0, 1; -2: nobody can come there; NONE without these. */
    private static void districtOfWhom(Due due) {
        FireTax x = Due.land("duchy 0 0 0;house 1 0 0;house 1 0 0;house 1 0 0;lane 0 1;officer 1 9");
        new Edge(due, "house", h -> x.district(h, 0)).answers(0, 0).answers(1, 0).answers(2, -2).refuses(0, 2, -1);
        new Edge(due, "what", what -> x.district(0, what)).answers(0, 0).answers(1, 1).refuses(0, 1, -1);
        new Edge(due, "what of none", what -> x.district(2, what)).answers(0, -2).answers(1, -2).refuses(0, 1, -1);
        FireTax nobody = Due.land("duchy 0 0 0;house 1 0 0");
        due.is("no officers", nobody.district(0, 0), -2);
        due.is("no lanes to go", nobody.district(0, 1), -2);
        due.is("without a duchy", new FireTax().district(0, 0), -1);
    }

    /** The fewest LANES: 0 where they stand, 7 from one end of eight houses to the other, fewer by another way round. */
    private static void districtLanes(Due due) {
        String row = "duchy 0 0 0" + ";house 1 0 0".repeat(8) + ";lane 0 1;lane 1 2;lane 2 3;lane 3 4;lane 4 5;lane 5 6;lane 6 7";
        for (int at = 0; at < 8; at++) {
            FireTax x = Due.land(row + ";officer " + at + " 9");
            FireTax ring = Due.land(row + ";lane 7 0;officer " + at + " 9");
            for (int h = 0; h < 8; h++) {
                int far = Math.abs(h - at);
                due.is("from " + at + " to " + h, x.district(h, 1), far);
                due.is("by a ring from " + at + " to " + h, ring.district(h, 1), Math.min(far, 8 - far));
            }
        }
        FireTax cold = Due.land("duchy 0 1 9;house 50 0 0;house 1 0 0;house 50 0 0;lane 0 1;lane 1 2;officer 0 9");
        cold.night();
        due.is("1 is frozen", cold.count(9), 2);
        due.is("by frozen ones too", cold.district(2, 1), 2);
        due.is("to frozen ones too", cold.district(1, 1), 1);
    }

    /** Of several the least. */
    private static void districtOfSeveral(Due due) {
        String row = "duchy 0 0 0;house 1 0 0;house 1 0 0;house 1 0 0;lane 0 1;lane 1 2";
        int[][] stands = {{0, 2, 2}, {2, 0, 1}, {2, 2, 0}, {1, 1, 1}};
        int[][] who = {{0, 0, 1}, {1, 2, 0}, {2, 0, 0}, {0, 0, 0}};
        for (int i = 0; i < stands.length; i++) {
            FireTax x = Due.land(row + ";officer " + stands[i][0] + " 9;officer " + stands[i][1] + " 9;officer " + stands[i][2] + " 9");
            for (int h = 0; h < 3; h++) {
                due.is("who of " + i + " for " + h, x.district(h, 0), who[i][h]);
            }
        }
    }

    private static FireTax hats(int... hidden) {
        StringBuilder text = new StringBuilder("duchy 0 0 0" + ";house 99 0 0".repeat(hidden.length));
        for (int h = 0; h < hidden.length; h++) {
            text.append(";hat ").append(h).append(' ').append(hidden[h]);
        }
        return Due.land(text.toString());
    }

    /** HATS for so much (1 to 400); what 0, 1; -2: by none; NONE without these, or a DUCHY. */
    private static void hatsFrom1To400(Due due) {
        FireTax x = hats(50, 50, 50, 50, 50, 50, 50, 50);
        new Edge(due, "much", much -> x.hats(much, 0)).answers(1, 1).answers(399, 8).answers(400, 8).refuses(1, 400, -1);
        new Edge(due, "the set", much -> x.hats(much, 1)).answers(1, 1).answers(399, 255).answers(400, 255).refuses(1, 400, -1);
        new Edge(due, "what", what -> x.hats(351, what)).answers(0, 8).answers(1, 255).refuses(0, 1, -1);
        FireTax less = hats(50, 50, 50, 50, 50, 50, 50, 49);
        due.is("399 are there", less.hats(399, 0), 8);
        due.is("400 are not", less.hats(400, 0), -2);
        due.is("no set", less.hats(400, 1), -2);
        for (int h = 0; h < 8; h++) {
            x.hide(h, 49);
        }
        due.is("four of 99", x.hats(396, 1), 15);
        due.is("five of 99", x.hats(397, 1), 31);
        due.is("400 of 792", x.hats(400, 0), 5);
        due.is("without a duchy", new FireTax().hats(1, 0), -1);
        due.is("without houses", Due.land("duchy 0 0 0").hats(1, 0), -2);
        due.is("without hats", hats(0, 0).hats(1, 0), -2);
    }

    /** So much or more is HIDDEN together. */
    private static void hatsAboutEachSum(Due due) {
        FireTax x = hats(1, 10, 40);
        int[] much = {1, 2, 10, 11, 40, 41, 42, 50, 51, 52};
        int[] many = {1, 1, 1, 1, 1, 2, 2, 2, 3, -2};
        int[] set = {1, 2, 2, 4, 4, 5, 6, 6, 7, -2};
        for (int i = 0; i < much.length; i++) {
            due.is("how many for " + much[i], x.hats(much[i], 0), many[i]);
            due.is("the set for " + much[i], x.hats(much[i], 1), set[i]);
        }
    }

    /** The fewest HOUSES; of several sets the least as bits. */
    private static void hatsOfSeveralSets(Due due) {
        FireTax x = hats(20, 30, 30, 20, 50, 0, 50, 50);
        int[] much = {20, 21, 31, 51, 70, 71, 80, 100, 101, 121, 131, 200};
        int[] set = {1, 2, 16, 6, 17, 18, 18, 80, 22, 82, 208, 211};
        for (int i = 0; i < much.length; i++) {
            due.is("the set for " + much[i], x.hats(much[i], 1), set[i]);
        }
    }
}
