import java.nio.charset.StandardCharsets;

/** What the tests share: answers that are due, and texts put on the tape. */
final class Due {
    private final String name;
    private int asked = 0;
    private int wrong = 0;

    Due(String name) {
        this.name = name;
    }

    void is(String what, int got, int due) {
        asked++;
        if (got != due) {
            wrong++;
            System.out.println(name + ": " + what + " answered " + got + ", due is " + due);
        }
    }

    /** Ends the test: exit code 1 if an answer was not the one that is due. */
    void end() {
        System.out.println(name + ": " + asked + " answers, " + wrong + " not as due");
        if (wrong != 0 || asked == 0) {
            System.exit(1);
        }
    }

    /** The text is all that the tape has then: how many bytes; NONE if there are more than it can have. */
    static int tell(FireTax x, String text) {
        byte[] bytes = text.getBytes(StandardCharsets.ISO_8859_1);
        x.end(0);
        for (int at = 0; at < bytes.length; at += 20) {
            int[] n = new int[5];
            for (int i = 0; i < 20 && at + i < bytes.length; i++) {
                n[i / 4] |= (bytes[at + i] & 255) << 24 - 8 * (i % 4);
            }
            x.feed(n[0], n[1], n[2], n[3], n[4]);
        }
        return x.end(bytes.length);
    }

    static int tell(FireTax x, byte[] text) {
        return tell(x, new String(text, StandardCharsets.ISO_8859_1));
    }

    static int duchy(FireTax x, String text) {
        tell(x, text);
        return x.duchy();
    }

    static int rule(FireTax x, String text) {
        tell(x, text);
        return x.rule();
    }

    /** A new object with this duchy, and these rules, of which the first is in force. */
    static FireTax land(String duchy, String... rules) {
        FireTax x = new FireTax();
        if (duchy(x, duchy) < 0) {
            throw new IllegalStateException("not a duchy: " + duchy);
        }
        for (String text : rules) {
            if (rule(x, text) < 0) {
                throw new IllegalStateException("not a rule: " + text);
            }
        }
        x.force(rules.length == 0 ? FireTax.NONE : 0);
        return x;
    }

    /** What duchy() and rule() answer to a fault. */
    static int fault(int place, int kind) {
        return -2 - (1 + 8 * place + kind);
    }
}
