/** Promise 5 and the RULES of ==== I: each bound of the text of a rule and of its values, just within and just beyond. */
public final class RuleBoundsTest {
    private static final String ALONE = "duchy 10 0 0;house 50 7 3;officer 0 99";

    public static void main(String[] args) {
        Due due = new Due("RuleBoundsTest");
        sixRules(due);
        twelveClauses(due);
        fiveDigits(due);
        wordsAsFarAsLetters(due);
        everyByte(due);
        fourHundredBytes(due);
        tenDeep(due);
        sixtyParts(due);
        theFirstFaultAlongTheText(due);
        ofOnePlaceTheLeast(due);
        nothingLeftOfAFault(due);
        byZero(due);
        towardsZero(due);
        roundIn64Bits(due);
        aboveZero(due);
        roomAndTenth(due);
        sinceUpTo99(due);
        besideAndFrozen(due);
        due.end();
    }

    /** RULES 0 to 5; NONE, and nothing happens: there are 6. */
    private static void sixRules(Due due) {
        FireTax x = new FireTax();
        for (int r = 0; r <= 5; r++) {
            due.is("beyond " + r, x.force(r), -2);
            due.is("rule " + r, Due.rule(x, "call " + r), r);
            due.is("force " + r, x.force(r), r - 1);
        }
        for (String text : new String[] {"call 1", "cal", ""}) {
            due.is("a seventh '" + text + "'", Due.rule(x, text), -1);
            due.is("the tape stays", x.count(15), text.length());
            due.is("six", x.count(6), 6);
            due.is("force 6", x.force(6), -2);
            due.is("in force", x.count(7), 5);
        }
    }

    /** 12 CLAUSES at most, of which the last one counts; 0 without one whose TEST holds. */
    private static void twelveClauses(Due due) {
        FireTax x = Due.land(ALONE);
        String text = "call 1 if 1=2";
        for (int clauses = 1; clauses <= 11; clauses++) {
            FireTax y = Due.land(ALONE, text, text + ";call 1");
            due.is(clauses + " that do not hold", y.night(), 0);
            y.force(1);
            due.is("and one that does", y.night(), 5);
            text += ";call 1 if 1=2";
        }
        due.is("twelve", Due.rule(x, text), 0);
        x.force(0);
        due.is("none of twelve holds", x.night(), 0);
        due.is("nobody called", x.house(0, 6), -1);
        fault(due, text + ";call 1", text.length() + 1, 4);
        fault(due, text + " ;  call", text.length() + 4, 4);
        fault(due, text + ";cal 1", text.length() + 1, 0);
        fault(due, text + ";", text.length() + 1, 0);
    }

    /** NUMBER (1 to 5 digits, as far as digits go on). */
    private static void fiveDigits(Due due) {
        int value = 0;
        for (int size = 1; size <= 5; size++) {
            value = value * 10 + 9;
            holds(due, value + "=" + (value - 1) + "+1", true);
            holds(due, value + "=" + (value - 1), false);
            holds(due, "0".repeat(5 - size) + value + "=" + value, true);
        }
        fault(due, "call 999999", 5, 1);
        fault(due, "call 000000", 5, 1);
        fault(due, "call 1 if 1<100000", 12, 1);
        fault(due, "call 1+" + "1".repeat(393), 7, 1);
    }

    /** WORDS (small letters, as far as these go on). */
    private static void wordsAsFarAsLetters(Due due) {
        String[] words = {"officer", "house", "warmth", "wood", "heat", "tenth", "room", "here", "beside", "since", "night",
            "frozen"};
        for (String word : words) {
            due.is(word, Due.rule(new FireTax(), "call " + word), 0);
            due.is(word + " and a number", Due.rule(new FireTax(), "call " + word + "*1"), 0);
            fault(due, "call " + word + "s", 5, 0);
            fault(due, "call " + word.substring(0, word.length() - 1), 5, 0);
            fault(due, "call x" + word, 5, 0);
            fault(due, "call" + word, 0, 0);
            fault(due, "call " + word + "1", 5 + word.length(), 0);
            fault(due, "call " + word.substring(0, 1).toUpperCase() + word.substring(1), 5, 0);
            fault(due, "call 1 if 1=1 and" + word, 14, 0);
        }
        fault(due, "call 1 ifhouse=1", 7, 0);
        fault(due, "call 1 if 1=1 or1=1x", 19, 0);
        due.is("numbers part words", Due.rule(new FireTax(), "call1if1=1or1=1and not1=1"), 0);
    }

    /** Behind each kind of piece every byte there is: blanks (32) stand between, and nothing else that is not told. */
    private static void everyByte(Due due) {
        for (int b = 0; b < 256; b++) {
            char c = (char) b;
            boolean digit = c >= '0' && c <= '9';
            boolean letter = c >= 'a' && c <= 'z';
            boolean joins = "+-*/%".indexOf(c) >= 0;
            boolean sign = "<=>".indexOf(c) >= 0;
            byteIn(due, "call" + c + "1", digit || b == 32 ? 0 : Due.fault(letter ? 0 : 4, 0));
            byteIn(due, "call 1" + c + "1", digit || joins ? 0 : Due.fault(b == 32 || c == ';' ? 7 : 6, 0));
            byteIn(due, "call 1" + c, digit || b == 32 ? 0 : Due.fault(joins || c == ';' ? 7 : 6, 0));
            byteIn(due, "call 1 if 1" + c + "1", sign ? 0 : Due.fault(digit || joins ? 13 : b == 32 ? 12 : 11, 0));
            byteIn(due, "call 1 if 1<" + c + "1", digit || b == 32 || c == '=' ? 0 : Due.fault(12, 0));
            byteIn(due, "call 1 if 1=" + c + "1", digit || b == 32 ? 0 : Due.fault(12, 0));
            byteIn(due, "call 1 if" + c + "1=1", digit || b == 32 ? 0 : Due.fault(letter ? 7 : c == '[' ? 13 : 9, 0));
            byteIn(due, "call 1 if [1=1" + c + "]", digit || b == 32 ? 0
                    : Due.fault(joins || c == ']' ? 15 : 14, 0));
        }
    }

    private static void byteIn(Due due, String text, int answer) {
        due.is("rule '" + text + "'", Due.rule(new FireTax(), text), answer);
    }

    /** Texts likewise: at most 400 bytes. */
    private static void fourHundredBytes(Due due) {
        FireTax x = Due.land("duchy 10 0 0;house 12 0 0;officer 0 99");
        String start = "call 1 if warmth=";
        Due.rule(x, start + " ".repeat(398 - start.length()) + "12");
        Due.tell(x, start + " ".repeat(398 - start.length()) + "12");
        x.end(399);
        due.is("399 bytes", x.rule(), 1);
        x.force(1);
        due.is("not 1", x.night(), 0);
        x.force(0);
        due.is("but 12", x.night(), 1);
        fault(due, "call 1" + " ".repeat(393) + ";", 400, 0);
        fault(due, "call 1" + " ".repeat(393) + "x", 399, 0);
        fault(due, " ".repeat(396) + "call", 400, 0);
    }

    /** [ and not lie within one another 10 deep at most (at the sign that opens, or the word not). */
    private static void tenDeep(Due due) {
        for (int nots = 0; nots <= 10; nots++) {
            int brackets = 10 - nots;
            String ten = "not ".repeat(nots) + "[".repeat(brackets) + "1=1" + "]".repeat(brackets);
            holds(due, "1=2 or " + ten.replace("1=1", "2=2"), nots % 2 == 0, true);
            String mixed = "not ".repeat(nots) + "[".repeat(brackets);
            int place = 10 + mixed.length();
            fault(due, "call 1 if " + mixed + "[1=1]" + "]".repeat(brackets), place, 2);
            fault(due, "call 1 if " + mixed + "not 1=1" + "]".repeat(brackets), place, 2);
            fault(due, "call 1 if " + mixed + "not", place, 2);
            fault(due, "call 1 if " + mixed + "[", place, 2);
            fault(due, "call 1 if " + mixed + "note", place, 0);
        }
        String ten = "[".repeat(10) + "1=1" + "]".repeat(10);
        good(due, "call 1 if " + ten + " and " + ten + " or not " + "[".repeat(9) + "1=1" + "]".repeat(9));
        good(due, "call 1 if " + ten + ";call 2 if " + ten);
        fault(due, "call 1 if " + ten + " and not " + ten, 10 + 23 + 5 + 4 + 9, 2);
        fault(due, "call 1 if " + "[".repeat(10) + "1=1 and [1=1]" + "]".repeat(10), 28, 2);
        fault(due, "call 1 if " + "[".repeat(9) + "[1=1] and [[1=1]]" + "]".repeat(9), 30, 2);
        good(due, "call 1 if " + "[".repeat(9) + "[1=1] and [1=1]" + "]".repeat(9));
    }

    /** At most 60 VALUES and FACTS made of a SIGN, together (at its first byte; of a FACT at its SIGN). */
    private static void sixtyParts(Due due) {
        for (int facts = 0; facts <= 19; facts++) {
            String test = facts == 0 ? "" : " if " + "1=1 or ".repeat(facts - 1) + "1=1";
            int room = 60 - 3 * facts;
            String sum = "1" + "+1".repeat(room - 1);
            good(due, "call " + sum + test);
            String more = "call " + sum + "+1" + test;
            fault(due, more, more.length() - 1, 3);
            String two = "call " + sum + "+1+1" + test;
            fault(due, two, facts == 0 ? two.length() - 3 : two.length() - 2, 3);
        }
        String full = "call 1" + "+1".repeat(29) + ";call 1" + "+1".repeat(28);
        good(due, full + "+1");
        good(due, full + ";call 1");
        fault(due, full + ";call 1+1", full.length() + 8, 3);
        fault(due, full + "+1 if not [1=1]", full.length() + 11, 3);
        fault(due, full + " if 1<=1", full.length() + 5, 3);
        fault(due, full + " if 1  >1", full.length() + 7, 3);
        fault(due, full + "+warmth+warmth", full.length() + 8, 3);
        FireTax x = Due.land(ALONE, "call 0" + "+0".repeat(58) + "+1", "call 1" + "*1".repeat(58) + "-1");
        due.is("the 60th counts", x.night(), 5);
        x.force(1);
        due.is("the 60th counts too", x.night(), 0);
    }

    private static void theFirstFaultAlongTheText(Due due) {
        fault(due, "call 123456 if [[[[[[[[[[[", 5, 1);
        fault(due, "call 1 if [[[[[[[[[[[123456", 20, 2);
        fault(due, "call 1" + "+1".repeat(60) + "+123456", 125, 3);
        fault(due, "call 1;".repeat(12) + "call 123456", 84, 4);
        fault(due, "call x;call 123456", 5, 0);
        fault(due, "call 1 if 123456", 10, 1);
    }

    /** 0 ahead of 3 and 4, 1 ahead of 3. */
    private static void ofOnePlaceTheLeast(Due due) {
        String sixty = "call 1" + "+1".repeat(59);
        fault(due, sixty + "+123456", 125, 1);
        fault(due, sixty + "+12345", 125, 3);
        fault(due, sixty + "+x", 125, 0);
        fault(due, sixty + "+[", 125, 0);
        fault(due, sixty + "+", 125, 0);
        fault(due, sixty + " if x=1", 128, 0);
        fault(due, sixty + " if 1", 128, 3);
        fault(due, sixty + " if not 1", 132, 3);
        fault(due, "call 1" + "+1".repeat(58) + " if 1 x", 128, 0);
        fault(due, "call 1" + "+1".repeat(58) + " if 1", 127, 0);
        fault(due, "call 1" + "+1".repeat(58) + " if 1 =", 128, 3);
        fault(due, "call 1" + "+1".repeat(58) + " if 1 or", 128, 0);
        fault(due, "call 1;".repeat(12) + "calls", 84, 0);
        fault(due, "call 1;".repeat(12) + "123456", 84, 0);
        fault(due, "call 1 if " + "[".repeat(10) + "]", 20, 0);
        fault(due, "call 1 if 1=1 123456", 14, 0);
    }

    /** -2 - its FAULT: nothing of such a text is in the next rule. */
    private static void nothingLeftOfAFault(Due due) {
        String[] faults = {"call 1+1;", "call 1*9-2+7;call 3 if 1=1;call", "call 1 if 1=1;call 2+2 if 2=2 and 3",
            "call 9+9+9+9+9+9" + ";call 9+9+9 if 9=9".repeat(9) + "]"};
        for (String bad : faults) {
            FireTax x = Due.land(ALONE);
            for (int i = 0; i < 20; i++) {
                due.is("a fault", Due.rule(x, bad) < -2 ? 1 : 0, 1);
            }
            due.is("the next", Due.rule(x, "call 0"), 0);
            due.is("another fault", Due.rule(x, bad) < -2 ? 1 : 0, 1);
            due.is("and the next", Due.rule(x, "call 1-house if 1=2;call 0-9;call 5"), 1);
            Due.rule(x, bad);
            due.is("and one that calls", Due.rule(x, "call 1+1 if 1=2;call 0 if 2=3;call 2" + "+1".repeat(40)), 2);
            for (int r = 0; r < 3; r++) {
                x.force(r);
                due.is("by " + r + " behind '" + bad + "'", x.ahead(0, 1, 1), r == 2 ? 5 : 0);
            }
        }
    }

    /** Both 0 by 0. */
    private static void byZero(Due due) {
        holds(due, "7/0=0", true);
        holds(due, "7%0=0", true);
        holds(due, "0/0=0", true);
        holds(due, "0%0=0", true);
        holds(due, "7/1=7", true);
        holds(due, "7%1=0", true);
        holds(due, "99999/officer=0", true);
        holds(due, "99999%officer=0", true);
        holds(due, "7/0*5+3=3", true);
        holds(due, "7/0/0%0=0", true);
        FireTax x = Due.land(ALONE, "call 7/0+7%0", "call 7/0+7%0+1");
        due.is("0 is not above 0", x.night(), 0);
        x.force(1);
        due.is("1 is", x.night(), 5);
    }

    /** / is towards 0, % its rest: of what is below 0, too. */
    private static void towardsZero(Due due) {
        String low = "32768*32768*32768*32768*8";
        holds(due, low + "/3*3=" + low + "+2", true);
        holds(due, low + "/7*7=" + low + "+1", true);
        holds(due, low + "/99999*99999=" + low + "+" + -(Long.MIN_VALUE % 99999), true);
        holds(due, low + "%3=0-2", true);
        holds(due, low + "%7=0-1", true);
        holds(due, low + "%99999=0-" + -(Long.MIN_VALUE % 99999), true);
        holds(due, low + "/1=" + low, true);
        holds(due, low + "%1=0", true);
        holds(due, "9/5=1", true);
        holds(due, "10/5=2", true);
        holds(due, "4/5=0", true);
        holds(due, "9%5=4", true);
        holds(due, "10%5=0", true);
    }

    /** All goes round in 64 bits. */
    private static void roundIn64Bits(Due due) {
        String two60 = "32768*32768*32768*32768";
        holds(due, two60 + "*4>0", true);
        holds(due, two60 + "*8<0", true);
        holds(due, two60 + "*8-1>0", true);
        holds(due, two60 + "*16=0", true);
        holds(due, two60 + "*16+1=1", true);
        holds(due, two60 + "*4+" + two60 + "*4<0", true);
        holds(due, "0-" + two60 + "*8<0", true);
        holds(due, "0-" + two60 + "*4-" + two60 + "*4<0", true);
        holds(due, "0-" + two60 + "*4-" + two60 + "*4-1>0", true);
        FireTax x = Due.land(ALONE, "call " + two60 + "*8", "call " + two60 + "*8-1", "call " + two60 + "*16");
        due.is("below 0 then", x.night(), 0);
        x.force(2);
        due.is("0 then", x.night(), 0);
        x.force(1);
        due.is("the greatest there is", x.night(), 5);
        FireTax two = Due.land("duchy 10 0 0;house 50 0 0;house 60 0 0;lane 0 1;officer 0 99",
                "call 1 if house=0;call " + two60 + "*8", "call 1 if house=0;call " + two60 + "*8-1",
                "call " + two60 + "*4 if house=0;call " + two60 + "*4+1");
        due.is("1 is greater than what is below 0", two.ahead(0, 1, 1), 5);
        two.force(1);
        due.is("and less than the greatest", two.ahead(0, 1, 1), 6);
        two.force(2);
        due.is("greater by 1 of 2^62", two.ahead(0, 1, 1), 6);
    }

    /** The SUM is greatest, if it is above 0, of several the least. */
    private static void aboveZero(Due due) {
        String land = "duchy 10 0 0;house 50 0 0;house 60 0 0;house 70 0 0;lane 0 1;lane 1 2;lane 0 2;officer 1 99";
        String[] rules = {"call 1", "call 0", "call 0-1", "call house-1", "call house-2", "call 1 if house>0;call 1",
            "call 2 if house=1;call 1", "call 1 if house=1;call 2", "call 5-house", "call 2-house*1", "call house"};
        int[] taken = {5, 0, 0, 7, 0, 5, 6, 5, 5, 5, 7};
        for (int i = 0; i < rules.length; i++) {
            FireTax x = Due.land(land, rules[i]);
            due.is(rules[i], x.night(), taken[i]);
            due.is(rules[i] + " stands", x.officer(0, 0), taken[i] == 0 ? 1 : taken[i] - 5);
        }
    }

    /** room (STOMACH less what they have), tenth (what they would take). */
    private static void roomAndTenth(Due due) {
        String land = "duchy 50 0 0;house 20 0 0;officer 0 ";
        for (int stomach : new int[] {1, 9, 10, 11, 200}) {
            FireTax x = Due.land(land + stomach, "call 1 if room=" + stomach + " and tenth=" + Math.min(10, stomach));
            due.is("stomach " + stomach, x.night(), Math.min(10, stomach));
        }
        FireTax full = Due.land(land + 10, "call 1", "call 1 if room=0 and tenth=0", "call 1 if room>0 or tenth>0");
        full.night();
        full.force(2);
        full.night();
        due.is("not above 0", full.house(0, 6), 0);
        full.force(1);
        full.night();
        due.is("0 when full", full.house(0, 6), 2);
        full.spit(0);
        full.force(2);
        full.night();
        due.is("room again", full.house(0, 6), 3);
    }

    /** since: that one the first; 99 if nobody ever, or more are. */
    private static void sinceUpTo99(Due due) {
        for (int nights : new int[] {1, 2, 97, 98, 99, 100, 101, 150}) {
            int since = Math.min(99, nights);
            FireTax x = Due.land(ALONE, "call 1", "call 1 if since=" + since, "call 1 if not since=" + since);
            x.night();
            x.force(-1);
            for (int i = 1; i < nights; i++) {
                x.night();
            }
            x.force(2);
            due.is("not another behind " + nights, x.ahead(0, 1, 1), 5);
            x.force(1);
            x.night();
            due.is("since " + nights, x.house(0, 6), nights);
        }
        FireTax never = Due.land(ALONE, "call 1 if since=99");
        never.night();
        due.is("nobody ever", never.house(0, 6), 0);
    }

    /** beside (HOUSES beside it), frozen (how many HOUSES are): none, and all the others. */
    private static void besideAndFrozen(Due due) {
        for (int houses = 1; houses <= 8; houses++) {
            StringBuilder text = new StringBuilder("duchy 10 1 9;house 60 0 0");
            for (int h = 1; h < houses; h++) {
                text.append(";house 9 0 0;lane 0 ").append(h);
            }
            FireTax x = Due.land(text + ";officer 0 99", "call 1 if here=1 and frozen=0 and beside=" + (houses - 1),
                    "call 1 if frozen=" + (houses - 1), "call 1 if here=0");
            due.is("with " + houses + " houses", x.night(), 6);
            x.force(2);
            due.is("all others are frozen", x.night(), 0);
            x.force(1);
            due.is("as many", x.night(), 5);
        }
        FireTax two = Due.land("duchy 10 0 0;house 50 0 0;house 50 0 0;lane 0 1;officer 1 99", "call 1 if beside=1 and here=0");
        two.night();
        due.is("not here", two.officer(0, 0), 0);
    }

    /** By a rule with this test an officer calls at their house. */
    private static void holds(Due due, String test, boolean answer) {
        holds(due, test, answer, false);
    }

    private static void holds(Due due, String test, boolean answer, boolean outermost) {
        FireTax x = Due.land(ALONE, outermost ? "call 1 if " + test : "call 1 if [" + test + "]");
        x.night();
        due.is(test + " holds", x.house(0, 6) == 0 ? 1 : 0, answer ? 1 : 0);
    }

    private static void good(Due due, String text) {
        due.is("rule '" + text + "'", Due.rule(new FireTax(), text), 0);
    }

    private static void fault(Due due, String text, int place, int kind) {
        FireTax x = new FireTax();
        due.is("rule '" + text + "'", Due.rule(x, text), Due.fault(place, kind));
        due.is("none is there", x.count(6), 0);
    }
}
