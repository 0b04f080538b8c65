import java.util.List;

/** Promises 10 to 15 and the ACTS of ==== II: each bound, just within and just beyond. */
public final class ActBoundsTest {
    public static void main(String[] args) {
        Due due = new Due("ActBoundsTest");
        fellLogs(due);
        fellTo99(due);
        lendAsItHas(due);
        lendBeside(due);
        lendTo999(due);
        lendFromAndToTheFrozen(due);
        hideAsItHas(due);
        hideTo99(due);
        liftHalf(due);
        liftByRoom(due);
        liftTo999(due);
        liftWhereTheyStand(due);
        spitAnything(due);
        nothingFreezesAtOnce(due);
        undoTwenty(due);
        undoEachKind(due);
        due.end();
    }

    /** So many logs more, 1 to 9. */
    private static void fellLogs(Due due) {
        FireTax x = Due.land("duchy 0 0 0;house 0 0 0;house 0 50 0");
        new Edge(due, "logs", logs -> x.fell(0, logs)).answers(1, 1).answers(9, 10).answers(2, 12).answers(8, 20).refuses(1, 9, -1);
        new Edge(due, "house", h -> x.fell(h, 1)).answers(0, 21).answers(1, 51).refuses(0, 1, -1);
        due.is("six acts", x.count(13), 6);
        FireTax none = new FireTax();
        due.is("without a duchy", none.fell(0, 1), -1);
        due.is("without houses", Due.land("duchy 0 0 0").fell(0, 1), -1);
    }

    /** If it has no more than 99 then: by every number of logs. */
    private static void fellTo99(Due due) {
        for (int logs = 1; logs <= 9; logs++) {
            FireTax x = Due.land("duchy 0 0 0;house 0 " + (99 - logs) + " 0;house 0 " + (100 - logs) + " 0");
            due.is("to 99 by " + logs, x.fell(0, logs), 99);
            due.is("to 100 by " + logs, x.fell(1, logs), -1);
            due.is("it has what it had", x.house(1, 1), 100 - logs);
            due.is("beyond 99", x.fell(0, 1), -1);
            due.is("one act", x.count(13), 1);
        }
    }

    /** So much WARMTH, 1 or more, as it has. */
    private static void lendAsItHas(Due due) {
        for (int warmth : new int[] {0, 1, 2, 99}) {
            FireTax x = Due.land("duchy 0 0 0;house " + warmth + " 0 0;house 7 0 0;lane 0 1");
            new Edge(due, "much of " + warmth, much -> x.lend(0, 1, much)).refuses(1, warmth, -1);
            due.is("nothing happened", x.count(13), 0);
            if (warmth > 0) {
                due.is("one", x.lend(0, 1, 1), 8);
                due.is("one more than is left", x.lend(0, 1, warmth), -1);
                due.is("what is left", x.house(0, 0), warmth - 1);
            }
            if (warmth > 1) {
                due.is("all that is left", x.lend(0, 1, warmth - 1), 7 + warmth);
                due.is("nothing is left", x.lend(0, 1, 1), -1);
            }
        }
    }

    /** To one beside it: not to itself, not two lanes off, both houses told. */
    private static void lendBeside(Due due) {
        FireTax x = Due.land("duchy 0 0 0;house 50 0 0;house 50 0 0;house 50 0 0;lane 0 1;lane 2 1");
        boolean[][] beside = {{false, true, false}, {true, false, true}, {false, true, false}};
        for (int a = 0; a < 3; a++) {
            for (int b = 0; b < 3; b++) {
                due.is("from " + a + " to " + b, x.lend(a, b, 1) >= 0 ? 1 : 0, beside[a][b] ? 1 : 0);
            }
        }
        new Edge(due, "from", h -> x.lend(h, 1, 1)).refuses(0, 2, -1);
        new Edge(due, "to", h -> x.lend(1, h, 1)).refuses(0, 2, -1);
        new Edge(due, "without a duchy", h -> new FireTax().lend(h, 0, 1)).refuses(0, 0, -1).answers(0, -1);
        due.is("four acts", x.count(13), 4);
    }

    /** An object whose house 0 has 999, whose house 1 has 99. */
    private static FireTax hot(String more) {
        FireTax x = Due.land("duchy 0 0 0;house 99 99 20;house 99 0 0;lane 0 1" + more);
        for (int i = 0; i < 45; i++) {
            x.night();
        }
        return x;
    }

    /** What is above 999 there is lost. */
    private static void lendTo999(Due due) {
        for (int room = 1; room <= 3; room++) {
            for (int much = 1; much <= 5; much++) {
                FireTax x = hot("");
                x.hide(0, room);
                due.is(much + " to " + (999 - room), x.lend(1, 0, much), Math.min(999, 999 - room + much));
                due.is("gone from where it was", x.house(1, 0), 99 - much);
            }
        }
        due.is("1 to 999", hot("").lend(1, 0, 1), 999);
        FireTax back = hot("");
        due.is("999 lent to 99", back.lend(0, 1, 900), 999);
        due.is("99 are left", back.house(0, 0), 99);
        due.is("all of it to 999", back.lend(0, 1, 99), 999);
        due.is("none is left", back.house(0, 0), 0);
    }

    /** A HOUSE that is not FROZEN; one that is FROZEN and has FREEZE or more then is FROZEN no more. */
    private static void lendFromAndToTheFrozen(Due due) {
        for (int freeze = 1; freeze <= 50; freeze += 7) {
            for (int off = -1; off <= 1; off++) {
                FireTax x = Due.land("duchy 0 0 " + freeze + ";house 99 0 0;house 0 0 0;lane 0 1");
                x.night();
                due.is("frozen", x.count(9), 2);
                due.is("from a frozen one", x.lend(1, 0, 1), -1);
                if (freeze + off > 0) {
                    due.is("so much", x.lend(0, 1, freeze + off), freeze + off);
                }
                due.is(off + " off " + freeze, x.count(9), off < 0 ? 2 : 0);
                due.is("from it then", x.lend(1, 0, 1) < 0 ? 1 : 0, off < 0 ? 1 : 0);
            }
        }
        FireTax some = Due.land("duchy 0 1 10;house 99 0 0;house 10 0 0;lane 0 1");
        some.night();
        due.is("has 9, is frozen", some.house(1, 4), 1);
        due.is("1 is enough", some.lend(0, 1, 1), 10);
        due.is("frozen no more", some.house(1, 4), 0);
        due.is("undone", some.undo(), 1);
        due.is("frozen again", some.house(1, 4), 1);
    }

    /** So much WARMTH, 1 or more, as it has; in a HOUSE that is not FROZEN. */
    private static void hideAsItHas(Due due) {
        for (int warmth : new int[] {0, 1, 2, 49, 50, 99}) {
            FireTax x = Due.land("duchy 0 0 0;house " + warmth + " 0 0");
            new Edge(due, "much of " + warmth, much -> x.hide(0, much)).refuses(1, warmth, -1);
            due.is("nothing happened", x.count(13), 0);
            if (warmth > 0) {
                due.is("all of it", x.hide(0, warmth), warmth);
                due.is("none is left", x.house(0, 0), 0);
                due.is("no more", x.hide(0, 1), -1);
            }
        }
        FireTax cold = Due.land("duchy 0 1 9;house 9 0 0;house 10 0 0");
        cold.night();
        due.is("in a frozen one", cold.hide(0, 1), -1);
        due.is("in one at FREEZE", cold.hide(1, 9), 9);
        new Edge(due, "house", h -> cold.hide(h, 1)).refuses(0, 1, -1);
        due.is("without a duchy", new FireTax().hide(0, 1), -1);
    }

    /** If no more than 99 are then. */
    private static void hideTo99(Due due) {
        for (int hat = 0; hat <= 50; hat += 10) {
            FireTax x = Due.land("duchy 0 0 0;house 99 9 9;hat 0 " + hat);
            x.night();
            due.is("100 then", x.hide(0, 100 - hat), -1);
            due.is("99 then", x.hide(0, 99 - hat), 99);
            due.is("one more", x.hide(0, 1), -1);
            due.is("hidden", x.house(0, 3), 99);
            due.is("warmth", x.house(0, 0), 108 - 99 + hat);
        }
        FireTax more = hot(";hat 0 1");
        due.is("far more than 99", more.hide(0, 999), -1);
        due.is("100", more.hide(0, 99), -1);
        due.is("99", more.hide(0, 98), 99);
    }

    /** If anything is HIDDEN there: half of it, downwards; what is left is WARMTH of the HOUSE; nothing is HIDDEN then. */
    private static void liftHalf(Due due) {
        for (int hat = 0; hat <= 50; hat++) {
            FireTax x = Due.land("duchy 0 0 0;house 10 0 0;hat 0 " + hat + ";officer 0 200");
            due.is("lift of " + hat, x.lift(0), hat == 0 ? -1 : hat / 2);
            due.is("has", x.officer(0, 2), hat / 2);
            due.is("warmth", x.house(0, 0), 10 + hat - hat / 2);
            due.is("nothing is hidden", x.house(0, 3), 0);
            due.is("acts", x.count(13), hat == 0 ? 0 : 1);
            due.is("once more", x.lift(0), -1);
        }
        FireTax full = Due.land("duchy 0 0 0;house 99 0 0;hat 0 50;officer 0 200");
        full.hide(0, 49);
        due.is("half of 99", full.lift(0), 49);
        due.is("warmth", full.house(0, 0), 50 + 50);
    }

    /** At most what ROOM they have. */
    private static void liftByRoom(Due due) {
        for (int stomach = 1; stomach <= 30; stomach++) {
            FireTax x = Due.land("duchy 0 0 0;house 10 0 0;hat 0 40;officer 0 " + stomach);
            int taken = Math.min(20, stomach);
            due.is("by stomach " + stomach, x.lift(0), taken);
            due.is("warmth", x.house(0, 0), 50 - taken);
            x.hide(0, 30);
            due.is("by what is left of " + stomach, x.lift(0), Math.min(15, stomach - taken));
            due.is("has", x.officer(0, 2), taken + Math.min(15, stomach - taken));
        }
    }

    /** What is above 999 there is lost. */
    private static void liftTo999(Due due) {
        for (int lent = 0; lent <= 12; lent++) {
            FireTax x = hot(";hat 0 20;officer 0 200");
            if (lent > 0) {
                x.lend(0, 1, lent);
            }
            due.is("lifted", x.lift(0), 10);
            due.is("warmth with room for " + lent, x.house(0, 0), Math.min(999, 999 - lent + 10));
        }
    }

    /** An OFFICER where they stand. */
    private static void liftWhereTheyStand(Due due) {
        FireTax x = Due.land("duchy 0 0 0;house 10 0 0;house 10 0 0;lane 0 1;hat 1 9;officer 0 99;officer 1 99", "call house");
        due.is("not beside it", x.lift(0), -1);
        new Edge(due, "officer", x::lift).refuses(0, 1, -1);
        due.is("without a duchy", new FireTax().lift(0), -1);
        x.night();
        due.is("once there", x.lift(0), 4);
        due.is("not again", x.lift(1), -1);
    }

    /** An OFFICER who has anything. */
    private static void spitAnything(Due due) {
        FireTax x = Due.land("duchy 1 0 0;house 99 1 1;officer 0 200;officer 0 200", "call 1");
        due.is("nothing at first", x.spit(0), -1);
        due.is("0 of 99", x.night(), 0);
        due.is("nothing still", x.spit(0), -1);
        due.is("1 of 100", x.night(), 1);
        new Edge(due, "officer", x::spit).refuses(0, 1, -1).answers(1, -1).answers(0, 1).answers(0, -1);
        due.is("on the hill", x.count(10), 1);
        due.is("acts", x.count(13), 3);
        FireTax full = Due.land("duchy 100 0 0;house 99 9 20;hat 0 50;officer 0 200", "call 1");
        full.night();
        full.night();
        full.lift(0);
        due.is("has", full.officer(0, 2), 99 + 20 + 25);
        due.is("all of it", full.spit(0), 144);
        due.is("without a duchy", new FireTax().spit(0), -1);
    }

    /** By LEND, HIDE, LIFT nothing freezes at once; the next NIGHT it does. */
    private static void nothingFreezesAtOnce(Due due) {
        String land = "duchy 0 0 9;house 20 0 0;house 20 0 0;lane 0 1;hat 0 9;officer 0 9";
        FireTax lent = Due.land(land);
        due.is("all lent", lent.lend(0, 1, 20), 40);
        FireTax hidden = Due.land(land);
        due.is("all hidden", hidden.hide(0, 20), 29);
        for (FireTax x : new FireTax[] {lent, hidden}) {
            due.is("not at once", x.count(9), 0);
            x.night();
            due.is("but then", x.count(9), 1);
        }
        FireTax cold = Due.land("duchy 0 0 9;house 1 0 0;hat 0 2;officer 0 9");
        due.is("lifted", cold.lift(0), 1);
        due.is("2 below 9, not at once", cold.count(9), 0);
        cold.night();
        due.is("2 below 9, then", cold.count(9), 1);
    }

    /** The last 20 ACTS can be UNDONE, the last first; -2, and nothing happens: none can. */
    private static void undoTwenty(Due due) {
        for (int acts = 0; acts <= 23; acts++) {
            FireTax x = Due.land("duchy 0 0 0;house 0 0 0");
            for (int i = 0; i < acts; i++) {
                x.fell(0, 1);
            }
            int undone = Math.min(20, acts);
            due.is(acts + " acts", x.count(13), undone);
            for (int i = 1; i <= undone; i++) {
                due.is("undo " + i + " of " + acts, x.undo(), undone - i);
                due.is("wood", x.house(0, 1), acts - i);
            }
            due.is("none more of " + acts, x.undo(), -2);
            due.is("wood stays", x.house(0, 1), acts - undone);
            due.is("none", x.count(13), 0);
        }
        FireTax again = Due.land("duchy 0 0 0;house 0 0 0");
        for (int i = 0; i < 60; i++) {
            again.fell(0, 2);
            again.undo();
        }
        due.is("undone ones are none", again.count(13), 0);
        due.is("no wood", again.house(0, 1), 0);
        due.is("without a duchy", new FireTax().undo(), -2);
    }

    /** All is as it was ahead of the act, whichever it was and however many came ahead of it. */
    private static void undoEachKind(Due due) {
        for (int kept = 35; kept >= 16; kept--) {
            FireTax x = afterActs(due, 36);
            for (int i = 35; i >= kept; i--) {
                due.is("undo " + i, x.undo(), i - 16);
            }
            List<Integer> now = Picture.now(x);
            List<Integer> ahead = Picture.now(afterActs(due, kept));
            now.set(13, ahead.get(13));
            due.is("as ahead of " + kept, Picture.parting(now, ahead), -1);
            due.is("more can be undone", x.undo(), kept > 16 ? kept - 17 : -2);
        }
    }

    private static FireTax afterActs(Due due, int acts) {
        FireTax x = Due.land("duchy 20 1 9;house 90 9 9;house 80 9 9;house 9 0 0;lane 0 1;lane 1 2;hat 0 50;hat 1 40;hat 2 30;"
                + "officer 0 200;officer 1 200;officer 2 200", "call warmth");
        for (int i = 0; i < acts; i++) {
            due.is("act " + i, act(x, i) < 0 ? 0 : 1, 1);
            due.is("something is on the hill", i < 6 || x.count(10) > 0 ? 1 : 0, 1);
        }
        return x;
    }

    /** One act of the kinds in turn. */
    private static int act(FireTax x, int number) {
        switch (number % 6) {
            case 0: return x.night();
            case 1: return x.fell(2, 1);
            case 2: return x.lend(number % 12 == 2 ? 0 : 1, number % 12 == 2 ? 1 : 0, 5);
            case 3: return x.hide(x.officer(0, 0), 4);
            case 4: return x.lift(0);
            default: return x.spit(0);
        }
    }
}
