/** Promise 5: rule. */
public final class RuleTextTest {
    public static void main(String[] args) {
        Due due = new Due("RuleTextTest");
        sixRules(due);
        wellFormed(due);
        cannotStand(due);
        longNumbers(due);
        tooDeep(due);
        tooManyParts(due);
        tooManyClauses(due);
        behindTheEnd(due);
        afterAFault(due);
        due.end();
    }

    private static void sixRules(Due due) {
        FireTax x = new FireTax();
        for (int i = 0; i < 6; i++) {
            due.is("rule " + i, Due.rule(x, "call " + i), i);
            due.is("how many", x.count(6), i + 1);
            due.is("a fault between", i == 5 ? -1 : Due.rule(x, "call"), i == 5 ? -1 : Due.fault(4, 0));
            due.is("the tape is empty", x.count(15), 0);
        }
        due.is("a seventh", Due.rule(x, "call 1"), -1);
        due.is("the tape stays", x.count(15), 6);
        due.is("a seventh with a fault", Due.rule(x, "cal"), -1);
        due.is("the tape stays again", x.count(15), 3);
        due.is("six", x.count(6), 6);
        due.is("none in force", x.count(7), -1);
    }

    private static void wellFormed(Due due) {
        good(due, "call 1");
        good(due, "call1");
        good(due, "  call  99999  ");
        good(due, "call officer+house-warmth*wood/heat%tenth+room+here+beside+since+night+frozen");
        good(due, "call 1if 1<2");
        good(due, "call 1 if 1<2 or 1<=2 and 1=2 or 1>=2 and 1>2");
        good(due, "call 1 if not 1<2");
        good(due, "call 1 if not[1<2]");
        good(due, "call 1 if [[1<2] or [not not 1<2 and 3=3]]and 1=1;call 2");
        good(due, "call 00000");
    }

    private static void cannotStand(Due due) {
        fault(due, "", 0, 0);
        fault(due, " ", 1, 0);
        fault(due, "duchy 1 1 1", 0, 0);
        fault(due, "calls 1", 0, 0);
        fault(due, "call", 4, 0);
        fault(due, "call -1", 5, 0);
        fault(due, "call 1;", 7, 0);
        fault(due, "call 1 1", 7, 0);
        fault(due, "call 1 warmth", 7, 0);
        fault(due, "call 1warmths", 6, 0);
        fault(due, "call warmths", 5, 0);
        fault(due, "call if", 5, 0);
        fault(due, "call not", 5, 0);
        fault(due, "call [1]", 5, 0);
        fault(due, "call 1+", 7, 0);
        fault(due, "call 1+*2", 7, 0);
        fault(due, "call 1<2", 6, 0);
        fault(due, "call 1 if", 9, 0);
        fault(due, "call 1 if 1", 11, 0);
        fault(due, "call 1 if 1 or 1=1", 12, 0);
        fault(due, "call 1 if 1=", 12, 0);
        fault(due, "call 1 if 1 < = 2", 14, 0);
        fault(due, "call 1 if 1==2", 12, 0);
        fault(due, "call 1 if 1=<2", 12, 0);
        fault(due, "call 1 if 1=1=1", 13, 0);
        fault(due, "call 1 if 1=1]", 13, 0);
        fault(due, "call 1 if [1=1", 14, 0);
        fault(due, "call 1 if [1=1;call 1", 14, 0);
        fault(due, "call 1 if []", 11, 0);
        fault(due, "call 1 if [1]=1", 12, 0);
        fault(due, "call 1 if 1=1 and", 17, 0);
        fault(due, "call 1 if 1=1 if 1=1", 14, 0);
        fault(due, "call 1 if 1=1 not 1=1", 14, 0);
        fault(due, "call 1 if nots 1=1", 10, 0);
        fault(due, "call 1 if 1!=1", 11, 0);
        fault(due, "call 1 if 1<=", 13, 0);
        for (String word : new String[] {"duchy", "lane", "hat", "snow", "call", "if", "or", "and", "not", "a"}) {
            fault(due, "call " + word, 5, 0);
            fault(due, "call 1 if " + word + "=1", word.equals("not") ? 13 : 10, 0);
        }
        fault(due, "[".repeat(400), 0, 0);
        fault(due, "call 1" + "]".repeat(394), 6, 0);
        fault(due, "call (1)", 5, 0);
        fault(due, "call 1,", 6, 0);
        fault(due, "call 1\u0000", 6, 0);
    }

    private static void longNumbers(Due due) {
        fault(due, "call 100000", 5, 1);
        fault(due, "call 000001", 5, 1);
        fault(due, "call 1 if 123456=1", 10, 1);
        fault(due, "call 1 123456", 7, 0);
    }

    private static void tooDeep(Due due) {
        String ten = "[".repeat(10) + "1=1" + "]".repeat(10);
        good(due, "call 1 if " + ten);
        good(due, "call 1 if " + ten + " and " + ten);
        good(due, "call 1 if " + "not ".repeat(10) + "1=1 and not 1=1");
        good(due, "call 1 if " + "not[".repeat(5) + "1=1" + "]".repeat(5));
        fault(due, "call 1 if [" + ten + "]", 20, 2);
        fault(due, "call 1 if " + "not ".repeat(11) + "1=1", 50, 2);
        fault(due, "call 1 if " + "not[".repeat(5) + "not 1=1" + "]".repeat(5), 30, 2);
        fault(due, "call 1 if " + "not[".repeat(5) + "[1=1]" + "]".repeat(5), 30, 2);
        fault(due, "call 1 if " + "[".repeat(11), 20, 2);
        fault(due, "call 1 if " + "[".repeat(10) + "1=1 or not 1=1", 27, 2);
    }

    private static void tooManyParts(Due due) {
        good(due, "call 1" + "+1".repeat(59));
        fault(due, "call 1" + "+1".repeat(60), 125, 3);
        fault(due, "call 1" + "+1".repeat(59) + "+warmth", 125, 3);
        fault(due, "call 1" + "+1".repeat(59) + "+warm", 125, 0);
        fault(due, "call 1" + "+1".repeat(59) + "+123456", 125, 1);
        fault(due, "call 1" + "+1".repeat(59) + "+", 125, 0);
        good(due, "call 1" + "+1".repeat(56) + " if 1=1");
        fault(due, "call 1" + "+1".repeat(57) + " if 1=1", 126, 3);
        fault(due, "call 1" + "+1".repeat(58) + " if 1=1", 127, 3);
        fault(due, "call 1" + "+1".repeat(59) + " if 1=1", 128, 3);
        fault(due, "call 1" + "+1".repeat(58) + " if 1+1=1", 128, 3);
        fault(due, "call 1" + "+1".repeat(58) + ";call 1+1", 130, 3);
    }

    private static void tooManyClauses(Due due) {
        good(due, "call 1;".repeat(11) + "call 1 if 1=1");
        fault(due, "call 1;".repeat(12) + "call 1", 84, 4);
        fault(due, "call 1;".repeat(12) + " call", 85, 4);
        fault(due, "call 1;".repeat(12) + "cal 1", 84, 0);
        fault(due, "call 1;".repeat(12), 84, 0);
    }

    /** What was cut off the tape is not read. */
    private static void behindTheEnd(Due due) {
        String[] texts = {"call warmths", "call 123456", "call 1 if 1<=1"};
        int[] ends = {11, 10, 12};
        int[] answers = {0, 1, Due.fault(12, 0)};
        FireTax x = new FireTax();
        for (int i = 0; i < texts.length; i++) {
            Due.tell(x, texts[i]);
            x.end(ends[i]);
            due.is("cut off '" + texts[i] + "'", x.rule(), answers[i]);
        }
    }

    /** Nothing of a text with a fault, or of a rule before, is in the next rule. */
    private static void afterAFault(Due due) {
        FireTax x = Due.land("duchy 10 0 0;house 50 0 0;officer 0 99");
        Due.rule(x, "call 9;call 8;call 7 if 1=1;");
        due.is("none of 40 parts and 11 clauses", Due.rule(x, "call 0" + ";call 1+1+1+1".repeat(10) + "+"), Due.fault(137, 0));
        due.is("40 parts and 11 clauses", Due.rule(x, "call 0" + ";call 1+1+1+1".repeat(10)), 0);
        due.is("once more", Due.rule(x, "call 1" + ";call 1+1+1+1".repeat(10)), 1);
        x.force(0);
        due.is("0 by the first clause", x.night(), 0);
        x.force(1);
        due.is("1 by the first clause", x.night(), 5);
    }

    private static void good(Due due, String text) {
        due.is("rule '" + text + "'", Due.rule(new FireTax(), text), 0);
    }

    private static void fault(Due due, String text, int place, int kind) {
        FireTax x = new FireTax();
        due.is("rule '" + text + "'", Due.rule(x, text), Due.fault(place, kind));
        due.is("none is there", x.count(6), 0);
        due.is("the tape is empty", x.count(15), 0);
    }
}
