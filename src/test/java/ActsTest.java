/** Promises 10 to 15: fell, lend, hide, lift, spit, undo. */
public final class ActsTest {
    private static final int[] FAR = {-1, Integer.MIN_VALUE, Integer.MAX_VALUE};

    public static void main(String[] args) {
        Due due = new Due("ActsTest");
        fell(due);
        lend(due);
        lendThaws(due);
        hide(due);
        lift(due);
        liftByOthers(due);
        liftInTheCold(due);
        spit(due);
        undo(due);
        twenty(due);
        withoutDuchy(due);
        due.end();
    }

    private static void fell(Due due) {
        FireTax x = Due.land("duchy 0 5 9;house 9 90 0;house 0 0 0");
        due.is("9 logs", x.fell(0, 9), 99);
        due.is("100 logs", x.fell(0, 1), -1);
        due.is("wood", x.house(0, 1), 99);
        due.is("none", x.fell(1, 0), -1);
        due.is("ten", x.fell(1, 10), -1);
        due.is("one", x.fell(1, 1), 1);
        due.is("no such house", x.fell(2, 1), -1);
        for (int far : FAR) {
            due.is("house " + far, x.fell(far, 1), -1);
            due.is("logs " + far, x.fell(1, far), -1);
        }
        due.is("two acts", x.count(13), 2);
        x.night();
        due.is("both frozen", x.count(9), 3);
        due.is("of one that is frozen too", x.fell(1, 3), 3);
        due.is("a night burnt", x.house(0, 1), 98);
        due.is("still below 100", x.fell(0, 1), 99);
        FireTax y = Due.land("duchy 0 0 0;house 9 0 0;house 0 95 0");
        due.is("the second has much", y.fell(1, 5), -1);
        due.is("the first has not", y.fell(0, 5), 5);
        due.is("the second to 99", y.fell(1, 4), 99);
    }

    private static void lend(Due due) {
        FireTax x = Due.land("duchy 0 0 0;house 40 0 0;house 10 0 0;house 5 0 0;lane 0 1;lane 1 2");
        due.is("lent", x.lend(0, 1, 15), 25);
        due.is("has less", x.house(0, 0), 25);
        due.is("more than it has", x.lend(0, 1, 26), -1);
        due.is("nothing", x.lend(0, 1, 0), -1);
        due.is("not beside", x.lend(0, 2, 1), -1);
        due.is("to itself", x.lend(0, 0, 1), -1);
        due.is("no such house", x.lend(3, 0, 1), -1);
        due.is("to no such house", x.lend(0, 3, 1), -1);
        for (int far : FAR) {
            due.is("from " + far, x.lend(far, 1, 1), -1);
            due.is("to " + far, x.lend(0, far, 1), -1);
            due.is("much " + far, x.lend(0, 1, far), -1);
        }
        due.is("all of it", x.lend(0, 1, 25), 50);
        due.is("nothing left", x.house(0, 0), 0);
        due.is("back by the same lane", x.lend(1, 0, 1), 1);
        due.is("acts", x.count(13), 3);
        FireTax hot = Due.land("duchy 0 0 0;house 99 99 20;house 99 0 0;lane 0 1");
        for (int i = 0; i < 46; i++) {
            hot.night();
        }
        due.is("above 999 is lost", hot.lend(1, 0, 99), 999);
        due.is("and gone", hot.house(1, 0), 0);
    }

    private static void lendThaws(Due due) {
        FireTax x = Due.land("duchy 0 1 9;house 40 0 0;house 9 0 0;house 0 0 0;lane 0 1;lane 0 2;lane 1 2");
        x.night();
        due.is("1 and 2 are frozen", x.count(9), 6);
        due.is("from a frozen one", x.lend(1, 0, 1), -1);
        due.is("to a frozen one, at FREEZE", x.lend(0, 1, 1), 9);
        due.is("1 is frozen no more", x.house(1, 4), 0);
        due.is("below FREEZE", x.lend(0, 2, 8), 8);
        due.is("2 is frozen still", x.count(9), 4);
        due.is("more of it", x.lend(0, 2, 1), 9);
        due.is("none is", x.count(9), 0);
        due.is("0 has", x.house(0, 0), 29);
        due.is("lends all but 1", x.lend(0, 1, 28), 37);
        due.is("nothing freezes at once", x.count(9), 0);
        x.night();
        due.is("but in the night", x.count(9), 5);
    }

    private static void hide(Due due) {
        FireTax x = Due.land("duchy 0 9 9;house 99 0 0;house 17 0 0;hat 0 50;hat 1 3");
        due.is("too much for a hat", x.hide(0, 50), -1);
        due.is("to 99", x.hide(0, 49), 99);
        due.is("has less", x.house(0, 0), 50);
        due.is("one more", x.hide(0, 1), -1);
        due.is("more than it has", x.hide(1, 18), -1);
        due.is("nothing", x.hide(1, 0), -1);
        due.is("all of it", x.hide(1, 17), 20);
        due.is("nothing freezes at once", x.count(9), 0);
        due.is("no such house", x.hide(2, 1), -1);
        for (int far : FAR) {
            due.is("house " + far, x.hide(far, 1), -1);
            due.is("much " + far, x.hide(0, far), -1);
        }
        due.is("acts", x.count(13), 2);
        FireTax y = Due.land("duchy 0 1 9;house 9 0 0");
        y.night();
        due.is("in a frozen one", y.hide(0, 1), -1);
        FireTax z = Due.land("duchy 0 0 0;house 99 0 0;house 99 0 0;hat 1 50");
        due.is("the second has a hat", z.hide(1, 50), -1);
        due.is("the first has not", z.hide(0, 50), 50);
        due.is("the second to 99", z.hide(1, 49), 99);
    }

    private static void lift(Due due) {
        FireTax x = Due.land("duchy 0 0 0;house 10 0 0;house 10 0 0;hat 0 15;officer 0 9;officer 1 9;officer 0 9");
        due.is("half, downwards", x.lift(0), 7);
        due.is("has", x.officer(0, 2), 7);
        due.is("what is left is warmth", x.house(0, 0), 18);
        due.is("nothing is hidden", x.house(0, 3), 0);
        due.is("lifted already", x.lift(2), -1);
        due.is("no hat", x.lift(1), -1);
        due.is("no such officer", x.lift(3), -1);
        for (int far : FAR) {
            due.is("officer " + far, x.lift(far), -1);
        }
        due.is("hide", x.hide(0, 10), 10);
        due.is("what room there is", x.lift(0), 2);
        due.is("the rest is warmth", x.house(0, 0), 16);
        due.is("hide again", x.hide(0, 10), 10);
        due.is("no room: nothing", x.lift(0), 0);
        due.is("all is warmth", x.house(0, 0), 16);
        due.is("it was an act", x.count(13), 5);
        due.is("hide 1", x.hide(0, 1), 1);
        due.is("half of 1", x.lift(2), 0);
        due.is("nobody called", x.house(0, 6), -1);
        FireTax hot = Due.land("duchy 0 0 0;house 99 99 20;hat 0 50;officer 0 9");
        for (int i = 0; i < 46; i++) {
            hot.night();
        }
        due.is("takes 9", hot.lift(0), 9);
        due.is("above 999 is lost", hot.house(0, 0), 999);
    }

    private static void liftByOthers(Due due) {
        FireTax x = Due.land("duchy 0 0 0;house 10 0 0;house 20 0 0;house 30 0 0;hat 1 11;hat 2 20;"
                + "officer 0 99;officer 1 99;officer 2 6");
        due.is("no hat at 0", x.lift(0), -1);
        due.is("the hat at 1", x.lift(1), 5);
        due.is("warmth of 1", x.house(1, 0), 26);
        due.is("hidden at 2 still", x.house(2, 3), 20);
        due.is("the hat at 2", x.lift(2), 6);
        due.is("warmth of 2", x.house(2, 0), 44);
        due.is("warmth of 0", x.house(0, 0), 10);
        int[] has = {0, 5, 6};
        for (int o = 0; o < 3; o++) {
            due.is("has " + o, x.officer(o, 2), has[o]);
            due.is("hidden " + o, x.house(o, 3), 0);
        }
        due.is("hide in 2", x.hide(2, 30), 30);
        due.is("no room left", x.lift(2), 0);
        due.is("fell at 2", x.fell(2, 9), 9);
    }

    private static void liftInTheCold(Due due) {
        FireTax x = Due.land("duchy 0 1 9;house 9 0 0;hat 0 50;officer 0 99");
        x.night();
        due.is("frozen", x.count(9), 1);
        due.is("lifted there too", x.lift(0), 25);
        due.is("warmth", x.house(0, 0), 33);
        due.is("frozen all the same", x.house(0, 4), 1);
    }

    private static void spit(Due due) {
        FireTax x = Due.land("duchy 50 0 0;house 99 0 0;officer 0 200;officer 0 5", "call 1");
        due.is("nothing to spit", x.spit(0), -1);
        x.night();
        due.is("on the hill", x.spit(0), 49);
        due.is("empty", x.officer(0, 2), 0);
        due.is("again", x.spit(0), -1);
        due.is("the other", x.spit(1), -1);
        x.night();
        due.is("more on the hill", x.spit(0), 49 + 25);
        due.is("count", x.count(10), 74);
        due.is("no such officer", x.spit(2), -1);
        for (int far : FAR) {
            due.is("officer " + far, x.spit(far), -1);
        }
        due.is("acts", x.count(13), 4);
        FireTax y = Due.land("duchy 10 0 0;house 90 0 0;house 10 0 0;officer 0 99;officer 1 99", "call 1");
        y.night();
        due.is("one is something", y.spit(1), 1);
        due.is("the first has it still", y.officer(0, 2), 9);
        due.is("the second has nothing", y.officer(1, 2), 0);
        due.is("the first too", y.spit(0), 10);
    }

    private static void undo(Due due) {
        FireTax x = Due.land("duchy 10 1 9;house 40 3 5;house 9 0 0;lane 0 1;hat 0 8;officer 0 50;snow 0", "call warmth");
        x.night();
        x.fell(0, 2);
        x.lend(0, 1, 3);
        x.hide(0, 4);
        x.lift(0);
        x.spit(0);
        due.is("six", x.count(13), 6);
        due.is("hill", x.count(10), 10);
        due.is("undo spit", x.undo(), 5);
        due.is("no hill", x.count(10), 0);
        due.is("has again", x.officer(0, 2), 10);
        due.is("undo lift", x.undo(), 4);
        due.is("hidden again", x.house(0, 3), 12);
        due.is("has less", x.officer(0, 2), 4);
        due.is("undo hide", x.undo(), 3);
        due.is("hidden before", x.house(0, 3), 8);
        due.is("warmth before", x.house(0, 0), 36);
        due.is("undo lend", x.undo(), 2);
        due.is("frozen again", x.count(9), 2);
        due.is("lent no more", x.house(1, 0), 7);
        due.is("undo fell", x.undo(), 1);
        due.is("wood before", x.house(0, 1), 2);
        due.is("undo night", x.undo(), 0);
        due.is("night 0", x.count(8), 0);
        due.is("thawed", x.count(9), 0);
        due.is("nobody called", x.house(0, 6), -1);
        due.is("empty", x.officer(0, 2), 0);
        due.is("warmth", x.house(0, 0), 40);
        due.is("snow", x.count(11), 1);
        due.is("no more", x.undo(), -2);
        due.is("force stays", x.count(7), 0);
    }

    private static void twenty(Due due) {
        FireTax x = Due.land("duchy 0 0 0;house 0 0 0");
        for (int i = 1; i <= 25; i++) {
            x.fell(0, 1);
            due.is("acts behind " + i, x.count(13), Math.min(20, i));
        }
        for (int i = 19; i >= 0; i--) {
            due.is("undo to " + i, x.undo(), i);
            due.is("wood", x.house(0, 1), 5 + i);
        }
        due.is("no more", x.undo(), -2);
        due.is("wood stays", x.house(0, 1), 5);
        x.fell(0, 9);
        due.is("not refused ones", x.fell(0, 0), -1);
        due.is("one", x.count(13), 1);
        due.is("undone", x.undo(), 0);
        due.is("wood again", x.house(0, 1), 5);
    }

    private static void withoutDuchy(Due due) {
        FireTax x = new FireTax();
        due.is("fell", x.fell(0, 1), -1);
        due.is("lend", x.lend(0, 1, 1), -1);
        due.is("hide", x.hide(0, 1), -1);
        due.is("lift", x.lift(0), -1);
        due.is("spit", x.spit(0), -1);
        due.is("undo", x.undo(), -2);
    }
}
