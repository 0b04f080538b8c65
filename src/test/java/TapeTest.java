/** Promises 2 and 3: feed, end. */
public final class TapeTest {
    private static final int BLANKS = 0x20202020;

    public static void main(String[] args) {
        Due due = new Due("TapeTest");
        highestByteFirst(due);
        atMostFourHundred(due);
        endKeepsTheFirst(due);
        everyLength(due);
        everyByte(due);
        firstBytesAlone(due);
        due.end();
    }

    private static void highestByteFirst(Due due) {
        FireTax x = new FireTax();
        due.is("feed", x.feed(0x64756368, 0x79203020, 0x30203020, BLANKS, BLANKS), 20);
        due.is("bytes", x.count(15), 20);
        due.is("duchy 0 0 0", x.duchy(), 0);
        due.is("empty then", x.count(15), 0);
        due.is("feed of high bytes", x.feed(0xff000000, 0, 0, 0, 0), 20);
        due.is("a byte 255", x.duchy(), Due.fault(0, 0));
    }

    private static void atMostFourHundred(Due due) {
        FireTax x = new FireTax();
        for (int i = 1; i <= 20; i++) {
            due.is("feed " + i, x.feed(i, i, i, i, i), 20 * i);
        }
        due.is("feed 21", x.feed(0, 0, 0, 0, 0), -1);
        due.is("none came", x.count(15), 400);
        due.is("end 381", x.end(381), 381);
        due.is("feed behind 381", x.feed(0, 0, 0, 0, 0), -1);
        due.is("none came behind 381", x.count(15), 381);
        due.is("end 380", x.end(380), 380);
        due.is("feed behind 380", x.feed(0, 0, 0, 0, 0), 400);
    }

    private static void endKeepsTheFirst(Due due) {
        FireTax x = new FireTax();
        due.is("end 1 of none", x.end(1), -1);
        due.is("end 0 of none", x.end(0), 0);
        Due.tell(x, "duchy 1 2 3;house 4 5 6");
        due.is("end -1", x.end(-1), -1);
        due.is("end least", x.end(Integer.MIN_VALUE), -1);
        due.is("end too far", x.end(24), -1);
        due.is("end most", x.end(Integer.MAX_VALUE), -1);
        due.is("nothing happened", x.count(15), 23);
        due.is("all of it", x.end(23), 23);
        due.is("end 12", x.end(12), 12);
        due.is("comes behind", x.feed(0x686f7573, 0x65203720, 0x38203920, BLANKS, BLANKS), 32);
        due.is("houses", x.duchy(), 1);
        due.is("warmth", x.house(0, 0), 7);
        due.is("heat", x.house(0, 2), 9);
    }

    /** NONE, and none comes, if it would have more than 400; NONE, and nothing happens, if it has not so many. */
    private static void everyLength(Due due) {
        for (int length = 0; length <= 400; length++) {
            FireTax x = new FireTax();
            Due.tell(x, " ".repeat(length));
            new Edge(due, "end of " + length, x::end).answers(length, length).refuses(0, length, -1);
            due.is("it has", x.count(15), length);
            due.is("fed behind " + length, x.feed(0, 0, 0, 0, 0), length <= 380 ? length + 20 : -1);
            due.is("it has then", x.count(15), length <= 380 ? length + 20 : length);
            due.is("back to " + length, x.end(length), length);
            due.is("to one less", length == 0 ? 0 : x.end(length - 1), Math.max(0, length - 1));
            due.is("no more than that", x.end(length), length == 0 ? 0 : -1);
        }
    }

    /** The TAPE has its first n bytes alone: what stood behind them is not read, wherever a text is cut. */
    private static void firstBytesAlone(Due due) {
        String duchy = "duchy 10 12 34;house 56 78 19;house 12 34 12;lane 0 1;hat 1 12;officer 1 123;snow 12";
        String rule = "call warmth if not [ since >= 12 or wood <= 34 ] and heat > 1;call 12345 % 678 * room";
        for (int n = 0; n <= duchy.length(); n++) {
            FireTax cut = new FireTax();
            Due.tell(cut, duchy);
            due.is("cut", cut.end(n), n);
            due.is("a duchy cut at " + n, cut.duchy(), Due.duchy(new FireTax(), duchy.substring(0, n)));
        }
        for (int n = 0; n <= rule.length(); n++) {
            FireTax cut = new FireTax();
            Due.tell(cut, rule);
            due.is("cut", cut.end(n), n);
            due.is("a rule cut at " + n, cut.rule(), Due.rule(new FireTax(), rule.substring(0, n)));
        }
        cutWithin(due, "call 1 if 1=1", 8, Due.fault(7, 0));
        cutWithin(due, "call 1 if 1<=", 12, Due.fault(12, 0));
        cutWithin(due, "call room", 8, Due.fault(5, 0));
        cutWithin(due, "call 123456", 10, 0);
    }

    private static void cutWithin(Due due, String rule, int n, int answer) {
        FireTax x = new FireTax();
        Due.tell(x, rule);
        x.end(n);
        due.is(rule + " cut at " + n, x.rule(), answer);
    }

    /** Of each number the highest first: a blank in each place of twenty, and a text around it. */
    private static void everyByte(Due due) {
        for (int place = 0; place < 20; place++) {
            FireTax x = new FireTax();
            byte[] text = " ".repeat(20).getBytes();
            text[place] = 'x';
            Due.tell(x, text);
            due.is("a byte at " + place, x.duchy(), Due.fault(place, 0));
            int[] n = new int[5];
            n[place / 4] = 0x20 << 24 - 8 * (place % 4);
            x.feed(n[0], n[1], n[2], n[3], n[4]);
            due.is("a blank at " + place, x.duchy(), Due.fault(place == 0 ? 1 : 0, 0));
        }
    }
}
