import java.util.function.ToIntFunction;

/** Promise 4 and ==== I: each bound of the text of a duchy, just within and just beyond. */
public final class DuchyBoundsTest {
    private static final String HEAD = "duchy 0 0 0";
    private static final String HOUSE = ";house 1 1 1";

    public static void main(String[] args) {
        Due due = new Due("DuchyBoundsTest");
        numbers(due);
        digits(due);
        nightsOfSnow(due);
        housesThatWereTold(due);
        toldBehind(due);
        hatsOfOneHouse(due);
        inTheOrderTold(due);
        howManyOfEach(due);
        lanesToldAlready(due);
        twelveLanes(due);
        fortyClauses(due);
        duchyOnceAndFirst(due);
        fourHundredBytes(due);
        everyByte(due);
        theFirstFaultAlongTheText(due);
        ofOnePlaceTheLeast(due);
        atFirst(due);
        due.end();
    }

    /** A number behind a text and ahead of another: all from least to most are taken, the next one is not as told. */
    private static void number(Due due, String ahead, int least, int most, String behind, ToIntFunction<FireTax> told) {
        for (int value = least; value <= most; value++) {
            FireTax x = new FireTax();
            String text = ahead + value + behind;
            due.is(text + " is a duchy", Due.duchy(x, text) >= 0 ? 1 : 0, 1);
            due.is(text + " tells", told.applyAsInt(x), value);
        }
        for (int value : new int[] {most + 1, most + 2, 999, 9999, 99999}) {
            fault(due, ahead + value + behind, ahead.length(), 1);
        }
        for (int value = 0; value < least; value++) {
            fault(due, ahead + value + behind, ahead.length(), 1);
        }
        fault(due, ahead + "-1" + behind, ahead.length(), 0);
        FireTax kept = Due.land(ahead + most + behind);
        due.is("one beyond", Due.duchy(kept, ahead + (most + 1) + behind), Due.fault(ahead.length(), 1));
        due.is("the last one stays", told.applyAsInt(kept), most);
    }

    /** TENTH 0 to 100; LOSS 0 to 20; FREEZE 0 to 50; WARMTH, WOOD 0 to 99; HEAT 0 to 20; HIDDEN 0 to 50; STOMACH 1 to 200. */
    private static void numbers(Due due) {
        number(due, "duchy ", 0, 100, " 0 0", x -> x.count(0));
        number(due, "duchy 0 ", 0, 20, " 0", x -> x.count(1));
        number(due, "duchy 0 0 ", 0, 50, "", x -> x.count(2));
        number(due, HEAD + ";house ", 0, 99, " 0 0", x -> x.house(0, 0));
        number(due, HEAD + ";house 0 ", 0, 99, " 0", x -> x.house(0, 1));
        number(due, HEAD + ";house 0 0 ", 0, 20, "", x -> x.house(0, 2));
        number(due, HEAD + HOUSE + ";hat 0 ", 0, 50, "", x -> x.house(0, 3));
        number(due, HEAD + HOUSE + ";officer 0 ", 1, 200, "", x -> x.officer(0, 1));
    }

    /** NUMBER (1 to 5 digits, as far as digits go on). */
    private static void digits(Due due) {
        String[] ahead = {"duchy ", "duchy 0 ", "duchy 0 0 ", HEAD + ";house ", HEAD + ";house 0 0 ", HEAD + HOUSE + ";hat ",
            HEAD + HOUSE + HOUSE + ";lane 0 ", HEAD + HOUSE + ";officer 0 ", HEAD + ";snow "};
        String[] behind = {" 0 0", " 0", "", " 0 0", "", " 0", "", "", ""};
        int[] number = {1, 1, 1, 1, 1, 0, 1, 1, 1};
        int[] houses = {0, 0, 0, 1, 1, 1, 2, 1, 0};
        for (int i = 0; i < ahead.length; i++) {
            String zeros = "";
            for (int size = 1; size <= 5; size++) {
                due.is(size + " digits", Due.duchy(new FireTax(), ahead[i] + zeros + number[i] + behind[i]), houses[i]);
                zeros += "0";
            }
            fault(due, ahead[i] + zeros + number[i] + behind[i], ahead[i].length(), 1);
            fault(due, ahead[i] + "0".repeat(20) + number[i] + behind[i], ahead[i].length(), 1);
        }
    }

    /** snow NUMBER (a NIGHT 0 to 99). */
    private static void nightsOfSnow(Due due) {
        for (int snow : new int[] {0, 1, 98, 99}) {
            FireTax x = Due.land("duchy 0 0 0;house 0 0 0;snow " + snow);
            for (int night = 0; night <= 101; night++) {
                due.is("snow " + snow + " on night " + night, x.count(11), night == snow ? 1 : 0);
                x.night();
            }
        }
        for (String text : new String[] {"100", "101", "99999"}) {
            fault(due, HEAD + ";snow " + text, 17, 1);
        }
    }

    /** Two HOUSES that were told (the second not the first); a HOUSE that was told: of 1 to 8. */
    private static void housesThatWereTold(Due due) {
        for (int houses = 0; houses <= 8; houses++) {
            String text = HEAD + HOUSE.repeat(houses);
            int end = text.length();
            for (int a = 0; a <= 9; a++) {
                told(due, text + ";hat " + a + " 50", a < houses, end + 5, houses);
                told(due, text + ";officer " + a + " 1", a < houses, end + 9, houses);
                for (int b = 0; b <= 9; b++) {
                    boolean good = a < houses && b < houses && a != b;
                    told(due, text + ";lane " + a + " " + b, good, a < houses ? end + 8 : end + 6, houses);
                }
            }
        }
    }

    private static void told(Due due, String text, boolean good, int place, int houses) {
        due.is(text, Due.duchy(new FireTax(), text), good ? houses : Due.fault(place, 1));
    }

    /** A house that is told behind was not told. */
    private static void toldBehind(Due due) {
        fault(due, HEAD + HOUSE + ";lane 0 1" + HOUSE, 31, 1);
        fault(due, HEAD + HOUSE + ";lane 1 0" + HOUSE, 29, 1);
        fault(due, HEAD + ";hat 0 1" + HOUSE, 16, 1);
        fault(due, HEAD + ";officer 0 1" + HOUSE, 20, 1);
        due.is("told ahead", Due.duchy(new FireTax(), HEAD + HOUSE + ";hat 0 1;officer 0 1" + HOUSE + ";lane 0 1" + HOUSE), 3);
    }

    /** hat: of one the last told, 0 without. */
    private static void hatsOfOneHouse(Due due) {
        FireTax x = new FireTax();
        Due.duchy(x, HEAD + HOUSE + HOUSE + HOUSE + ";hat 0 50;hat 1 7;hat 0 3;hat 1 0");
        due.is("the last", x.house(0, 3), 3);
        due.is("the last is 0", x.house(1, 3), 0);
        due.is("without", x.house(2, 3), 0);
    }

    /** HOUSES 0 to 7, OFFICERS 0 to 2, in the order told. */
    private static void inTheOrderTold(Due due) {
        FireTax x = new FireTax();
        StringBuilder text = new StringBuilder(HEAD);
        for (int h = 0; h < 8; h++) {
            text.append(";house ").append(90 - h).append(" ").append(80 - h).append(" ").append(20 - h);
        }
        text.append(";officer 7 200;officer 0 1;officer 3 30");
        due.is("eight", Due.duchy(x, text.toString()), 8);
        for (int h = 0; h < 8; h++) {
            due.is("warmth " + h, x.house(h, 0), 90 - h);
            due.is("wood " + h, x.house(h, 1), 80 - h);
            due.is("heat " + h, x.house(h, 2), 20 - h);
        }
        due.is("no house 8", x.house(8, 0), -2);
        int[] at = {7, 0, 3};
        int[] stomach = {200, 1, 30};
        for (int o = 0; o < 3; o++) {
            due.is("officer " + o, x.officer(o, 0), at[o]);
            due.is("stomach " + o, x.officer(o, 1), stomach[o]);
        }
        due.is("no officer 3", x.officer(3, 0), -1);
    }

    /** A ninth HOUSE, a fourth OFFICER, a seventh SNOW (at its first byte). */
    private static void howManyOfEach(Due due) {
        String[] ahead = {HEAD, HEAD + HOUSE, HEAD};
        String[] clause = {HOUSE, ";officer 0 5", ";snow 7"};
        int[] most = {8, 3, 6};
        int[] counted = {3, 5, 11};
        for (int i = 0; i < clause.length; i++) {
            for (int n = 0; n <= most[i]; n++) {
                FireTax x = new FireTax();
                due.is(clause[i] + " " + n + " times", Due.duchy(x, ahead[i] + clause[i].repeat(n)) >= 0 ? 1 : 0, 1);
                due.is("as many", x.count(counted[i]), i == 2 ? 0 : n);
            }
            String full = ahead[i] + clause[i].repeat(most[i]);
            fault(due, full + clause[i], full.length() + 1, 4);
            fault(due, full + ";  " + clause[i].substring(1), full.length() + 3, 4);
            fault(due, full + clause[i].substring(0, clause[i].indexOf(' ')), full.length() + 1, 4);
            fault(due, full + clause[i].substring(0, 4), full.length() + 1, 0);
        }
        fault(due, HEAD + ";snow 1;snow 2;snow 3;snow 4;snow 5;snow 6;snow 0", 54, 4);
        FireTax six = Due.land(HEAD + ";snow 0;snow 1;snow 2;snow 3;snow 4;snow 5");
        for (int night = 0; night < 7; night++) {
            due.is("of six snows on " + night, six.count(11), night < 6 ? 1 : 0);
            six.night();
        }
    }

    /** lane (told already: nothing new): in the same order, and in the other. */
    private static void lanesToldAlready(Due due) {
        for (int a = 0; a < 8; a++) {
            for (int b = 0; b < 8; b++) {
                if (a == b) {
                    continue;
                }
                FireTax x = new FireTax();
                String text = HEAD + HOUSE.repeat(8) + ";lane " + a + " " + b;
                due.is("once", Due.duchy(x, text), 8);
                due.is("one lane", x.count(4), 1);
                Due.duchy(x, text + ";lane " + a + " " + b);
                due.is("twice " + a + " " + b, x.count(4), 1);
                Due.duchy(x, text + ";lane " + b + " " + a);
                due.is("and back " + a + " " + b, x.count(4), 1);
                for (int h = 0; h < 8; h++) {
                    due.is("beside " + h, x.house(h, 5), h == a ? 1 << b : h == b ? 1 << a : 0);
                }
            }
        }
    }

    /** LANES 12 at most; a LANE behind 12 of them (told already or not). */
    private static void twelveLanes(Due due) {
        FireTax x = new FireTax();
        String[] lanes = new String[28];
        int size = 0;
        for (int a = 0; a < 8; a++) {
            for (int b = a + 1; b < 8; b++) {
                lanes[size++] = ";lane " + a + " " + b;
            }
        }
        String text = HEAD + HOUSE.repeat(8);
        for (int n = 0; n < 12; n++) {
            FireTax some = new FireTax();
            due.is(n + " lanes", Due.duchy(some, text), 8);
            due.is("as many", some.count(4), n);
            text += lanes[27 - n];
        }
        due.is("twelve lanes", Due.duchy(x, text), 8);
        due.is("twelve", x.count(4), 12);
        fault(due, text + lanes[0], text.length() + 1, 4);
        fault(due, text + lanes[27], text.length() + 1, 4);
        fault(due, text + ";lane 0 0", text.length() + 1, 4);
        fault(due, text + " ; lane", text.length() + 3, 4);
        fault(due, text + ";lan 0 1", text.length() + 1, 0);
        String elevenAndMore = text.substring(0, text.length() - 9) + lanes[27] + lanes[26] + lanes[25];
        due.is("told already behind eleven", Due.duchy(x, elevenAndMore), 8);
        due.is("eleven", x.count(4), 11);
        due.is("the twelfth behind those", Due.duchy(x, elevenAndMore + lanes[16]), 8);
        due.is("twelve then", x.count(4), 12);
        due.is("others behind twelve", Due.duchy(x, text + ";hat 0 9;officer 7 9;snow 9"), 8);
    }

    /** 40 CLAUSES at most, of whatever kind the next one is. */
    private static void fortyClauses(Due due) {
        FireTax x = new FireTax();
        String text = HEAD + HOUSE;
        for (int clauses = 2; clauses < 40; clauses++) {
            due.is(clauses + " clauses", Due.duchy(new FireTax(), text), 1);
            text += ";hat 0 " + clauses % 10;
        }
        due.is("40 clauses", Due.duchy(x, text), 1);
        due.is("the 40th counts", x.house(0, 3), 9);
        int place = text.length() + 1;
        for (String clause : new String[] {"hat 0 1", "house 1 1 1", "lane 0 1", "officer 0 1", "snow 1", "duchy 0 0 0", "hat"}) {
            fault(due, text + ";" + clause, place, 4);
        }
        fault(due, text + ";", place, 0);
        fault(due, text + ";;", place, 0);
        fault(due, text + ";call 1", place, 0);
        fault(due, text + ";1", place, 0);
        String last = text.substring(0, text.length() - 8);
        due.is("39 and a house", Due.duchy(x, last + HOUSE), 2);
        due.is("39 and an officer", Due.duchy(x, last + ";officer 0 9"), 1);
        due.is("there", x.count(5), 1);
        due.is("39 and snow", Due.duchy(x, last + ";snow 0"), 1);
        due.is("it snows", x.count(11), 1);
    }

    /** duchy: once, the first CLAUSE; a second duchy, another CLAUSE ahead of it. */
    private static void duchyOnceAndFirst(Due due) {
        for (String clause : new String[] {"house 1 1 1", "lane 0 1", "hat 0 0", "officer 0 1", "snow 1"}) {
            fault(due, clause, 0, 4);
            fault(due, clause + ";" + HEAD, 0, 4);
            fault(due, "   " + clause.substring(0, clause.indexOf(' ')), 3, 4);
        }
        fault(due, "call 1;" + HEAD, 0, 0);
        fault(due, ";" + HEAD, 0, 0);
        fault(due, HEAD + ";" + HEAD, 12, 4);
        fault(due, HEAD + HOUSE + ";duchy", 24, 4);
        due.is("alone", Due.duchy(new FireTax(), HEAD), 0);
    }

    /** A text of at most 400 bytes; the end is behind the last byte. */
    private static void fourHundredBytes(Due due) {
        FireTax x = new FireTax();
        String start = HEAD + ";house 3 4";
        String text = start + " ".repeat(398 - start.length()) + "12";
        due.is("400 bytes", Due.duchy(x, text), 1);
        due.is("the last one counts", x.house(0, 2), 12);
        Due.tell(x, text);
        due.is("399 of them", x.end(399), 399);
        due.is("are a duchy too", x.duchy(), 1);
        due.is("without the last one", x.house(0, 2), 1);
        fault(due, text.substring(0, 399) + ";", 400, 0);
        fault(due, HEAD + " ".repeat(388) + ";", 400, 0);
        fault(due, HEAD + " ".repeat(388) + "x", 399, 0);
        fault(due, " ".repeat(400), 400, 0);
        fault(due, " ".repeat(399), 399, 0);
        fault(due, " ".repeat(395) + "duchy", 400, 0);
        fault(due, ";".repeat(400), 0, 0);
        fault(due, "", 0, 0);
    }

    /** Blanks (32) alone stand between; small letters and digits go on as far as they go. */
    private static void everyByte(Due due) {
        for (int b = 0; b < 256; b++) {
            FireTax x = new FireTax();
            char c = (char) b;
            boolean digit = c >= '0' && c <= '9';
            boolean letter = c >= 'a' && c <= 'z';
            due.is("behind a word, byte " + b, Due.duchy(x, "duchy" + c + "0 0 0"),
                    digit || b == 32 ? 0 : Due.fault(letter ? 0 : 5, 0));
            due.is("behind a number, byte " + b, Due.duchy(x, "duchy 0" + c + "0 0 0"),
                    digit ? 0 : Due.fault(b == 32 ? 12 : 7, 0));
            due.is("at the end, byte " + b, Due.duchy(x, "duchy 0 0 1" + c),
                    digit || b == 32 ? 0 : Due.fault(c == ';' ? 12 : 11, 0));
            due.is("at first, byte " + b, Due.duchy(x, c + HEAD), b == 32 ? 0 : Due.fault(0, 0));
        }
    }

    private static void theFirstFaultAlongTheText(Due due) {
        fault(due, "duchy 101 21 51;x", 6, 1);
        fault(due, "duchy 100 21 51;x", 10, 1);
        fault(due, "duchy 100 20 51;x", 13, 1);
        fault(due, "duchy 100 20 50;x", 16, 0);
        fault(due, HEAD + ";lane 0 0", 17, 1);
        fault(due, HEAD + HOUSE + ";lane 0 x", 31, 0);
        fault(due, HEAD + HOUSE + ";officer 0;officer 1 1", 33, 0);
        fault(due, HEAD + HOUSE + ";hat 0 51;duchy", 30, 1);
        fault(due, HEAD + HOUSE.repeat(9) + ";x", 108, 4);
    }

    /** A number that cannot stand there is that, whatever it tells. */
    private static void ofOnePlaceTheLeast(Due due) {
        fault(due, "123456", 0, 0);
        fault(due, HEAD + " 123456", 12, 0);
        fault(due, HEAD + ";123456", 12, 0);
        fault(due, HEAD + HOUSE.repeat(8) + ";houses 1 1 1", 108, 0);
        fault(due, HEAD + ";duchyduchy", 12, 0);
        fault(due, "houses", 0, 0);
    }

    /** It is NIGHT 0; no HOUSE is FROZEN, all OFFICERS are empty, so is the HILL: ahead of everything, and in place of another. */
    private static void atFirst(Due due) {
        String cold = "duchy 100 20 50;house 0 0 0;house 49 0 0;lane 0 1;officer 0 9;officer 1 200";
        FireTax x = Due.land(cold, "call 1");
        for (int time = 0; time < 2; time++) {
            due.is("night", x.count(8), 0);
            due.is("frozen", x.count(9), 0);
            due.is("hill", x.count(10), 0);
            for (int i = 0; i < 2; i++) {
                due.is("frozen " + i, x.house(i, 4), 0);
                due.is("called " + i, x.house(i, 6), -1);
                due.is("has " + i, x.officer(i, 2), 0);
            }
            due.is("a night", x.night(), 49);
            due.is("on the hill", x.spit(1), 49);
            due.is("both freeze", x.count(9), 3);
            due.is("anew", Due.duchy(x, cold), 2);
        }
    }

    /** On an object of its own: one is used for at most 512 calls. */
    private static void fault(Due due, String text, int place, int kind) {
        due.is("duchy '" + text + "'", Due.duchy(new FireTax(), text), Due.fault(place, kind));
    }
}
