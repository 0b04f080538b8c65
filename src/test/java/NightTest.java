/** Promises 7, 8 and 9: house, officer, night. */
public final class NightTest {
    public static void main(String[] args) {
        Due due = new Due("NightTest");
        askedWrongly(due);
        officersByNumbers(due);
        calls(due);
        stomachs(due);
        hearths(due);
        freezing(due);
        snow(due);
        lastCall(due);
        eightHouses(due);
        due.end();
    }

    private static void askedWrongly(Due due) {
        FireTax x = Due.land("duchy 0 0 0;house 1 2 3;house 4 5 6;officer 1 7");
        int[] wrong = {-1, 2, 7, 8, Integer.MIN_VALUE, Integer.MAX_VALUE};
        for (int house : wrong) {
            for (int what = 0; what < 7; what++) {
                due.is("house " + house, x.house(house, what), -2);
            }
        }
        for (int what : new int[] {-1, 7, Integer.MIN_VALUE, Integer.MAX_VALUE}) {
            due.is("house what " + what, x.house(0, what), -2);
        }
        for (int officer : new int[] {-1, 1, 2, 3, Integer.MIN_VALUE, Integer.MAX_VALUE}) {
            for (int what = 0; what < 3; what++) {
                due.is("officer " + officer, x.officer(officer, what), -1);
            }
        }
        for (int what : new int[] {-1, 3, Integer.MIN_VALUE, Integer.MAX_VALUE}) {
            due.is("officer what " + what, x.officer(0, what), -1);
        }
        int[] first = {1, 2, 3, 0, 0, 0, -1};
        for (int what = 0; what < 7; what++) {
            due.is("house 0 " + what, x.house(0, what), first[what]);
        }
        due.is("stands", x.officer(0, 0), 1);
        due.is("stomach", x.officer(0, 1), 7);
        due.is("has", x.officer(0, 2), 0);
        due.is("no duchy, no night", new FireTax().night(), -1);
    }

    /** Officer 1 calls by how all is behind officer 0's call. */
    private static void officersByNumbers(Due due) {
        FireTax x = Due.land("duchy 50 0 0;house 10 0 0;house 40 0 0;house 30 0 0;lane 0 1;lane 1 2;lane 0 2;"
                + "officer 0 99;officer 0 99;officer 0 99", "call warmth");
        due.is("taken", x.night(), 20 + 15 + 5);
        due.is("the first at 1", x.officer(0, 0), 1);
        due.is("the second at 2", x.officer(1, 0), 2);
        due.is("the third at 0", x.officer(2, 0), 0);
        int[] has = {20, 15, 5};
        int[] warmth = {5, 20, 15};
        for (int i = 0; i < 3; i++) {
            due.is("has", x.officer(i, 2), has[i]);
            due.is("warmth", x.house(i, 0), warmth[i]);
            due.is("called", x.house(i, 6), 0);
        }
        due.is("one night", x.count(8), 1);
    }

    private static void calls(Due due) {
        FireTax alone = Due.land("duchy 10 0 0;house 90 0 0;house 90 0 0;officer 0 99;officer 0 99", "call house+1");
        due.is("one call at a house a night", alone.night(), 9);
        due.is("the second has nothing", alone.officer(1, 2), 0);
        due.is("not without a lane", alone.house(1, 6), -1);
        FireTax down = Due.land("duchy 33 0 0;house 10 0 0;officer 0 99", "call 1");
        due.is("downwards", down.night(), 3);
        due.is("again", down.night(), 2);
        due.is("warmth", down.house(0, 0), 5);
        FireTax lanes = Due.land("duchy 10 0 0;house 10 0 0;house 20 0 0;house 30 0 0;lane 0 1;lane 1 2;"
                + "officer 0 99", "call warmth");
        due.is("to 1", lanes.night(), 2);
        due.is("to 2", lanes.night(), 3);
        due.is("stands at 2", lanes.officer(0, 0), 2);
        due.is("stays", lanes.night(), 2);
        due.is("all of it", Due.land("duchy 100 0 0;house 99 0 0;officer 0 200", "call 1").night(), 99);
    }

    private static void stomachs(Due due) {
        FireTax x = Due.land("duchy 50 0 0;house 60 0 0;house 5 0 0;lane 0 1;officer 0 40", "call warmth");
        due.is("half", x.night(), 30);
        due.is("what room there is", x.night(), 10);
        due.is("has", x.officer(0, 2), 40);
        due.is("full", x.night(), 0);
        due.is("calls all the same", x.house(0, 6), 2);
        due.is("warmth", x.house(0, 0), 20);
    }

    private static void hearths(Due due) {
        FireTax x = Due.land("duchy 0 3 0;house 10 2 5;house 1 0 9;house 0 1 2");
        due.is("nothing is taken", x.night(), 0);
        due.is("a log", x.house(0, 0), 12);
        due.is("wood", x.house(0, 1), 1);
        due.is("0 at least", x.house(1, 0), 0);
        due.is("not frozen at FREEZE 0", x.count(9), 0);
        due.is("the log first", x.house(2, 0), 0);
        x.night();
        x.night();
        due.is("no log left", x.house(0, 0), 11);
        due.is("no wood left", x.house(0, 1), 0);
        FireTax hot = Due.land("duchy 0 0 0;house 99 99 20");
        for (int i = 0; i < 46; i++) {
            hot.night();
        }
        due.is("999 at most", hot.house(0, 0), 999);
        due.is("wood goes", hot.house(0, 1), 53);
        FireTax cold = Due.land("duchy 0 1 0;house 99 99 20");
        for (int i = 0; i < 48; i++) {
            cold.night();
        }
        due.is("999 ahead of the loss", cold.house(0, 0), 998);
    }

    private static void freezing(Due due) {
        FireTax x = Due.land("duchy 10 2 8;house 10 0 0;house 10 5 0;house 3 9 20;lane 0 1;lane 1 2;officer 1 50",
                "call 1 if house=1", "call house");
        due.is("nobody is frozen at first", x.count(9), 0);
        due.is("takes", x.night(), 1);
        due.is("at FREEZE not frozen", x.house(0, 4), 0);
        due.is("below it frozen", x.house(1, 4), 1);
        due.is("warmed in time", x.house(2, 4), 0);
        due.is("as bits", x.count(9), 2);
        due.is("no call at a frozen one", x.night(), 0);
        due.is("called on 0", x.house(1, 6), 0);
        due.is("stays", x.house(1, 0), 7);
        due.is("no log burnt", x.house(1, 1), 4);
        x.force(1);
        due.is("calls beside it", x.night(), 3);
        due.is("at 2", x.officer(0, 0), 2);
    }

    private static void snow(Due due) {
        FireTax x = Due.land("duchy 0 3 0;house 50 0 0;snow 1;snow 1;snow 3");
        int[] warmth = {47, 41, 38, 32, 29};
        int[] snows = {1, 0, 1, 0, 0};
        for (int i = 0; i < 5; i++) {
            x.night();
            due.is("warmth behind " + i, x.house(0, 0), warmth[i]);
            due.is("snow on " + (i + 1), x.count(11), snows[i]);
        }
    }

    /** Every part of what is held has a place of its own. */
    private static void eightHouses(Due due) {
        StringBuilder text = new StringBuilder("duchy 0 0 0");
        for (int h = 0; h < 8; h++) {
            text.append(";house ").append(10 + h).append(' ').append(20 + h).append(' ').append(h);
        }
        for (int h = 0; h < 8; h++) {
            text.append(";hat ").append(h).append(' ').append(30 + h);
        }
        FireTax x = Due.land(text + ";officer 7 41;officer 6 42;officer 0 43", "call 1");
        for (int nights = 0; nights < 3; nights++) {
            for (int h = 0; h < 8; h++) {
                boolean called = nights > 0 && (h == 7 || h == 6 || h == 0);
                int[] of = {10 + h + nights * h, 20 + h - nights, h, 30 + h, 0, 0, called ? nights - 1 : -1};
                for (int what = 0; what < 7; what++) {
                    due.is("house " + h + " " + what, x.house(h, what), of[what]);
                }
            }
            int[] stands = {7, 6, 0};
            for (int o = 0; o < 3; o++) {
                due.is("stands " + o, x.officer(o, 0), stands[o]);
                due.is("stomach " + o, x.officer(o, 1), 41 + o);
                due.is("has " + o, x.officer(o, 2), 0);
            }
            due.is("frozen", x.count(9), 0);
            due.is("night", x.count(8), nights);
            due.is("hill", x.count(10), 0);
            x.night();
        }
    }

    private static void lastCall(Due due) {
        FireTax x = Due.land("duchy 0 0 0;house 5 0 0;house 5 0 0;lane 0 1;officer 0 9", "call 1 if night%2=house");
        x.night();
        due.is("0 on 0", x.house(0, 6), 0);
        due.is("1 never", x.house(1, 6), -1);
        x.night();
        x.night();
        due.is("0 on 2", x.house(0, 6), 2);
        due.is("1 on 1", x.house(1, 6), 1);
        x.force(-1);
        x.night();
        due.is("0 still on 2", x.house(0, 6), 2);
    }
}
