/** Promises 7 to 9 and the NIGHT of ==== II: each bound, just within and just beyond. */
public final class NightBoundsTest {
    public static void main(String[] args) {
        Due due = new Due("NightBoundsTest");
        whoseWhat(due);
        tenthDownwards(due);
        atMostTheRoom(due);
        whereTheyCanCall(due);
        onceANight(due);
        notAtFrozenOnes(due);
        withoutARule(due);
        oneLog(due);
        heatTo999(due);
        lossTo0(due);
        lessThanFreeze(due);
        frozenStaysSo(due);
        nightsOfSnow(due);
        due.end();
    }

    /** Of a HOUSE what 0 to 6, -2 without these; of an OFFICER what 0 to 2, NONE without these. */
    private static void whoseWhat(Due due) {
        String text = "duchy 10 0 0";
        for (int houses = 1; houses <= 8; houses++) {
            text += ";house " + houses + " 2 3";
            FireTax x = Due.land(text + ";officer " + (houses - 1) + " 9");
            new Edge(due, "house", h -> x.house(h, 0)).answers(0, 1).answers(houses - 1, houses).refuses(0, houses - 1, -2);
        }
        FireTax x = Due.land(text + ";hat 7 4;officer 7 9;officer 7 8", "call house");
        x.night();
        new Edge(due, "what of a house", what -> x.house(7, what)).answers(0, 11).answers(1, 1).answers(2, 3).answers(3, 4)
                .answers(4, 0).answers(5, 0).answers(6, 0).refuses(0, 6, -2);
        new Edge(due, "officer", o -> x.officer(o, 1)).answers(0, 9).answers(1, 8).refuses(0, 1, -1);
        new Edge(due, "what of an officer", what -> x.officer(0, what)).answers(0, 7).answers(1, 9).answers(2, 0).refuses(0, 2, -1);
        FireTax none = new FireTax();
        new Edge(due, "no house", h -> none.house(h, 0)).refuses(0, -1, -2).answers(0, -2);
        new Edge(due, "no officer", o -> none.officer(o, 0)).refuses(0, -1, -1).answers(0, -1);
        FireTax empty = Due.land("duchy 1 1 1");
        due.is("no house told", empty.house(0, 0), -2);
        due.is("no officer told", empty.officer(0, 0), -1);
        due.is("a night all the same", empty.night(), 0);
        due.is("one", empty.count(8), 1);
        due.is("without a duchy none", none.night(), -1);
        due.is("and no act", none.count(13), 0);
    }

    /** TENTH of a hundred of its WARMTH, downwards. */
    private static void tenthDownwards(Due due) {
        for (int tenth : new int[] {0, 1, 2, 33, 50, 99, 100}) {
            for (int warmth = 0; warmth <= 99; warmth++) {
                FireTax x = Due.land("duchy " + tenth + " 0 0;house " + warmth + " 0 0;officer 0 200", "call 1");
                int taken = (int) Math.floor(tenth * warmth / 100.0 + 1e-9);
                due.is(tenth + " of " + warmth, x.night(), taken);
                due.is("has less", x.house(0, 0), warmth - taken);
                due.is("they have it", x.officer(0, 2), taken);
            }
        }
        FireTax hot = Due.land("duchy 1 0 0;house 99 1 1;officer 0 200", "call 1");
        due.is("1 of 99", hot.night(), 0);
        due.is("1 of 100", hot.night(), 1);
    }

    /** At most what ROOM they have. */
    private static void atMostTheRoom(Due due) {
        for (int stomach = 1; stomach <= 60; stomach++) {
            FireTax x = Due.land("duchy 50 0 0;house 80 0 0;officer 0 " + stomach, "call 1");
            int first = Math.min(40, stomach);
            int second = Math.min((80 - first) / 2, stomach - first);
            due.is("first by " + stomach, x.night(), first);
            due.is("second by " + stomach, x.night(), second);
            due.is("has", x.officer(0, 2), first + second);
            due.is("warmth", x.house(0, 0), 80 - first - second);
        }
    }

    /** At the HOUSE where they stand, and at those beside it (by a LANE). */
    private static void whereTheyCanCall(Due due) {
        String row = "duchy 10 0 0" + ";house 50 0 0".repeat(8) + ";lane 0 1;lane 1 2;lane 2 3;lane 3 4;lane 4 5;lane 5 6;lane 6 7";
        for (int at = 0; at < 8; at++) {
            for (int to = 0; to < 8; to++) {
                FireTax x = Due.land(row + ";officer " + at + " 99", "call 1 if house=" + to);
                boolean near = Math.abs(at - to) <= 1;
                due.is("from " + at + " at " + to, x.night(), near ? 5 : 0);
                due.is("stands", x.officer(0, 0), near ? to : at);
                due.is("the night of the call", x.house(to, 6), near ? 0 : -1);
            }
        }
    }

    /** At which nobody has called this NIGHT; on the next one they can. */
    private static void onceANight(Due due) {
        FireTax x = Due.land("duchy 10 0 0;house 50 0 0;officer 0 99;officer 0 99;officer 0 99", "call 1", "call 1 if officer=2");
        due.is("the first alone", x.night(), 5);
        due.is("has", x.officer(0, 2), 5);
        due.is("the second nothing", x.officer(1, 2), 0);
        due.is("on the next night again", x.night(), 4);
        due.is("by the first again", x.officer(0, 2), 9);
        x.force(1);
        due.is("by the third", x.night(), 4);
        due.is("the third has", x.officer(2, 2), 4);
        FireTax two = Due.land("duchy 10 0 0;house 50 0 0;house 60 0 0;lane 0 1;officer 0 99;officer 0 99;officer 1 99", "call 1");
        due.is("two houses, two calls", two.night(), 5 + 6);
        due.is("the second went on", two.officer(1, 0), 1);
        due.is("the third has none", two.officer(2, 2), 0);
        FireTax bare = Due.land("duchy 0 0 0;house 50 0 0;officer 0 99;officer 0 99", "call 1 if since=99");
        bare.night();
        due.is("who takes nothing has called", bare.house(0, 6), 0);
    }

    /** That are not FROZEN: they can stand at one, and leave it. */
    private static void notAtFrozenOnes(Due due) {
        FireTax x = Due.land("duchy 10 1 9;house 9 0 0;house 50 0 0;house 9 0 0;lane 0 1;lane 1 2;officer 0 99;officer 2 99",
                "call 1 if not house=1", "call 1");
        due.is("not frozen yet: 0 of 9", x.night(), 0);
        due.is("called", x.house(0, 6), 0);
        due.is("0 and 2", x.count(9), 5);
        due.is("no more", x.night(), 0);
        due.is("not called", x.house(0, 6), 0);
        x.force(1);
        due.is("at 1 alone", x.night(), 4);
        due.is("the first is there", x.officer(0, 0), 1);
        due.is("the second is not", x.officer(1, 0), 2);
    }

    /** By the RULE IN FORCE (without one nothing). */
    private static void withoutARule(Due due) {
        FireTax x = Due.land("duchy 10 1 0;house 50 0 0;officer 0 99", "call 1");
        x.force(-1);
        due.is("nothing", x.night(), 0);
        due.is("nobody called", x.house(0, 6), -1);
        due.is("hearths all the same", x.house(0, 0), 49);
        x.force(0);
        due.is("something", x.night(), 4);
    }

    /** One burns a log, if it has any. */
    private static void oneLog(Due due) {
        for (int wood : new int[] {0, 1, 2, 99}) {
            FireTax x = Due.land("duchy 0 0 0;house 10 " + wood + " 3");
            for (int nights = 1; nights <= 101; nights++) {
                x.night();
                int burnt = Math.min(wood, nights);
                due.is("wood of " + wood + " behind " + nights, x.house(0, 1), wood - burnt);
                due.is("warmth of " + wood + " behind " + nights, x.house(0, 0), 10 + 3 * burnt);
            }
        }
    }

    /** HEAT more (999 at most): 979 + 20 is 999, and so is what would be more, ahead of the loss. */
    private static void heatTo999(Due due) {
        for (int loss = 0; loss <= 2; loss++) {
            for (int warmth = 97; warmth <= 99; warmth++) {
                FireTax x = Due.land("duchy 0 " + loss + " 0;house " + warmth + " 99 20");
                int is = warmth;
                for (int nights = 0; nights < 60; nights++) {
                    x.night();
                    is = Math.min(999, is + 20) - loss;
                    due.is("warmth by " + loss + " behind " + nights, x.house(0, 0), is);
                }
                due.is("at last", x.house(0, 0), 999 - loss);
            }
        }
    }

    /** Then LOSS less, twice as much on a NIGHT of SNOW, 0 at least. */
    private static void lossTo0(Due due) {
        for (int warmth = 0; warmth <= 45; warmth++) {
            FireTax x = Due.land("duchy 0 20 0;house " + warmth + " 0 0");
            x.night();
            due.is("20 less than " + warmth, x.house(0, 0), Math.max(0, warmth - 20));
            FireTax snow = Due.land("duchy 0 20 0;house " + warmth + " 0 0;snow 0");
            snow.night();
            due.is("40 less than " + warmth, snow.house(0, 0), Math.max(0, warmth - 40));
            due.is("never frozen by FREEZE 0", snow.count(9), 0);
        }
    }

    /** Has it less than FREEZE then, it is FROZEN: by every FREEZE. */
    private static void lessThanFreeze(Due due) {
        for (int freeze = 0; freeze <= 50; freeze++) {
            for (int off = -1; off <= 1; off++) {
                int warmth = freeze + off + 2;
                FireTax x = Due.land("duchy 0 2 " + freeze + ";house " + warmth + " 0 0;house 99 0 0");
                due.is("ahead of the night", x.count(9), 0);
                x.night();
                due.is(off + " off " + freeze, x.house(0, 4), freeze > 0 && off < 0 ? 1 : 0);
                due.is("as bits", x.count(9), freeze > 0 && off < 0 ? 1 : 0);
            }
        }
        FireTax taxed = Due.land("duchy 10 0 45;house 50 0 0;officer 0 99", "call 1");
        due.is("to FREEZE by officers", taxed.night(), 5);
        due.is("not frozen", taxed.count(9), 0);
        due.is("below it", taxed.night(), 4);
        due.is("frozen", taxed.count(9), 1);
        FireTax log = Due.land("duchy 0 5 10;house 8 1 7;house 8 1 6");
        log.night();
        due.is("a log in time, and one that is not enough", log.count(9), 2);
    }

    /** None of its WARMTH is lost any more, no log burnt. */
    private static void frozenStaysSo(Due due) {
        FireTax x = Due.land("duchy 50 3 20;house 21 9 1;house 99 9 9;officer 0 99", "call 1 if night>0");
        x.night();
        for (int nights = 0; nights < 5; nights++) {
            due.is("warmth", x.house(0, 0), 19);
            due.is("wood", x.house(0, 1), 8);
            due.is("frozen", x.count(9), 1);
            due.is("nothing is taken", x.night(), 0);
        }
    }

    /** On a NIGHT of SNOW, told once or more: that night, not the one ahead of it, not the one behind. */
    private static void nightsOfSnow(Due due) {
        for (int snow = 0; snow <= 99; snow += 11) {
            FireTax x = Due.land("duchy 0 2 0;house 99 99 4;snow " + snow + ";snow " + snow);
            int is = 99;
            for (int night = 0; night <= 104; night++) {
                due.is("snow on " + night, x.count(11), night == snow ? 1 : 0);
                x.night();
                is += (night < 99 ? 4 : 0) - (night == snow ? 4 : 2);
                due.is("warmth behind " + night, x.house(0, 0), is);
            }
        }
    }
}
