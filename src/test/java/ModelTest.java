import java.lang.reflect.Method;
import java.lang.reflect.Modifier;
import java.nio.charset.StandardCharsets;
import java.util.Arrays;
import java.util.HashMap;
import java.util.Map;
import java.util.Random;

/** All promises: runs of calls drawn from fixed seeds, each answered by the program as by the model. */
public final class ModelTest {
    private static final int RUNS = 400;
    private static final int CALLS = 110;
    /** An object is used for at most 512 calls: the last ones look at all, and a text takes some thirty. */
    private static final int CALLS_TO_LOOK = 128;
    private static final int MOST_MADE = 512 - CALLS_TO_LOOK - 40;
    private static final String[] WORDS = Model.Reader.WORDS.toArray(new String[0]);
    private static final Map<String, Method> FACE = new HashMap<>();

    private final Random random;
    private final FireTax program = new FireTax();
    private final Model model = new Model();
    private final Due due;
    /** Whether texts are drawn about the bounds of the language. */
    private final boolean atTheBounds;
    private int made = 0;

    private ModelTest(int seed, Due due) {
        this.random = new Random(seed);
        this.due = due;
        this.atTheBounds = seed % 3 == 1;
    }

    public static void main(String[] args) throws Exception {
        for (Method m : FireTax.class.getDeclaredMethods()) {
            if (Modifier.isPublic(m.getModifiers())) {
                FACE.put(m.getName(), m);
            }
        }
        Due due = new Due("ModelTest");
        for (int seed = 0; seed < RUNS; seed++) {
            new ModelTest(seed, due).run(seed);
        }
        due.end();
    }

    private void run(int seed) throws Exception {
        for (int i = 0; i < 4 && seed % 10 != 0 && countNow(3) == 0; i++) {
            tell(duchy());
            ask("duchy");
        }
        for (int i = random.nextInt(4); i > 0; i--) {
            tell(rule());
            ask("rule");
        }
        ask("force", countNow(6) - 1);
        for (int i = 0; i < CALLS && made < MOST_MADE; i++) {
            one();
        }
        for (int what = 0; what < 16; what++) {
            ask("count", what);
        }
        for (int h = 0; h < 8; h++) {
            for (int what = 0; what < 7; what++) {
                ask("house", h, what);
                ask("officer", h, what);
            }
        }
    }

    private int ask(String call, int... arguments) throws Exception {
        Object[] boxed = Arrays.stream(arguments).boxed().toArray();
        made++;
        int got = (Integer) FACE.get(call).invoke(program, boxed);
        due.is(call + Arrays.toString(arguments), got, model.answer(call, arguments));
        return got;
    }

    private int countNow(int what) {
        made++;
        return program.count(what);
    }

    private int houseNow(int house, int what) {
        made++;
        return program.house(house, what);
    }

    private int warmthAhead(int house, int n) {
        made++;
        return program.ahead(house, n, 0);
    }

    private void tell(String text) throws Exception {
        byte[] bytes = text.getBytes(StandardCharsets.ISO_8859_1);
        ask("end", 0);
        for (int at = 0; at < bytes.length; at += 20) {
            int[] n = new int[5];
            for (int i = 0; i < 20; i++) {
                n[i / 4] = n[i / 4] << 8 | (at + i < bytes.length ? bytes[at + i] & 255 : 0);
            }
            ask("feed", n);
        }
        ask("end", Math.min(400, bytes.length));
    }

    private int pick(int... of) {
        return of[random.nextInt(of.length)];
    }

    /** Mostly within the bounds, now and then about or beyond them. */
    private int from(int least, int most) {
        if (random.nextInt(12) == 0) {
            return pick(least - 1, most + 1, least, most, -1, Integer.MIN_VALUE, Integer.MAX_VALUE);
        }
        return least + (most > least ? random.nextInt(most - least + 1) : 0);
    }

    private int aHouse() {
        return from(0, countNow(3) - 1);
    }

    private int anOfficer() {
        return from(0, countNow(5) - 1);
    }

    private int nights(int most) {
        return random.nextBoolean() ? from(1, 6) : from(1, most);
    }

    private int besideOf(int house) {
        int bits = houseNow(house, 5);
        for (int h = random.nextInt(8), i = 0; i < 8; i++, h = (h + 1) % 8) {
            if (bits > 0 && (bits >> h & 1) != 0 && random.nextInt(15) != 0) {
                return h;
            }
        }
        return aHouse();
    }

    private void one() throws Exception {
        int h = aHouse();
        switch (random.nextInt(36)) {
            case 0 -> { tell(random.nextInt(3) == 0 ? duchy() : spoilt(duchy())); ask("duchy"); }
            case 1 -> { tell(rule()); ask("rule"); }
            case 2 -> { tell(spoilt(rule())); ask("rule"); }
            case 3 -> ask("force", from(-1, countNow(6) - 1));
            case 4, 5, 6, 7, 8 -> ask("night");
            case 9 -> ask("fell", h, from(1, 9));
            case 10, 11 -> ask("lend", h, besideOf(h), from(1, Math.max(1, houseNow(h, 0))));
            case 12 -> ask("hide", h, from(1, Math.max(1, Math.min(30, houseNow(h, 0)))));
            case 13 -> ask("lift", anOfficer());
            case 14 -> ask("spit", anOfficer());
            case 15 -> ask("undo");
            case 16 -> { ask("ahead", h, nights(100), 0); ask("ahead", anOfficer(), nights(100), from(0, 2)); }
            case 17 -> ask("freezes", h);
            case 18 -> ask("round", anOfficer(), from(1, 3), from(-1, 3));
            case 19 -> ask("round", anOfficer(), from(1, 3), -1);
            case 20 -> ask("span", anOfficer(), from(1, 3), from(0, 1));
            case 21 -> ask("logs", h, nights(60));
            case 22 -> ask("rate", nights(60));
            case 23 -> ask("levy", pick(0, 1, 10, 57, 999, from(0, 9999)), h);
            case 24 -> ask("district", h, from(0, 1));
            case 25 -> ask("hats", pick(1, 10, 30, 60, 100, from(1, 400)), from(0, 1));
            case 26, 27 -> ask("loan", h, besideOf(h), nights(60));
            case 28 -> ask("book", random.nextInt(5) == 0 ? -1 : from(0, 60), h, from(0, 999));
            case 29 -> { int n = from(0, 9); ask("book", n, h, countNow(8) == 0 ? warmthAhead(h, n + 1) : from(0, 60)); }
            case 30 -> ask("ruled", from(0, 1));
            case 31 -> ask("look", from(0, 60), from(0, 1));
            case 32 -> ask("seed", from(0, Integer.MAX_VALUE - 1));
            case 33 -> ask("winters", from(1, 10), nights(60), from(0, 100), from(0, 1));
            case 34 -> ask("image", from(0, 3));
            default -> ask("back", from(0, 3));
        }
    }

    private String duchy() {
        return atTheBounds ? fullDuchy() : plainDuchy();
    }

    /** At a bound, next to it, or one beyond it, which is seldom. */
    private String number(int least, int most) {
        return "" + (random.nextInt(60) == 0 ? most + 1 : pick(least, least + 1, most - 1, most));
    }

    private String fullDuchy() {
        StringBuilder text = new StringBuilder("duchy " + pick(0, 1, 10, 50, 99, 100) + " " + pick(0, 1, 2, 19, 20) + " "
                + pick(0, 1, 9, 49, 50));
        int houses = pick(7, 8, 8, 8, 8, 8, 8, 9);
        for (int i = 0; i < houses; i++) {
            text.append(";house " + pick(0, 1, 50, 51, 98, 99) + " " + pick(0, 1, 98, 99) + " " + number(0, 20));
        }
        for (int i = pick(10, 11, 12, 12, 13); i > 0; i--) {
            int a = random.nextInt(8);
            text.append(";lane " + a + " " + (a + 1 + random.nextInt(7)) % 8);
        }
        for (int i = pick(2, 3, 3, 3, 3, 3, 4); i > 0; i--) {
            text.append(";officer " + random.nextInt(8) + " " + pick(1, 2, 30, 199, 200));
        }
        for (int i = pick(0, 1, 5, 6, 6, 7); i > 0 && text.length() < 390; i--) {
            text.append(random.nextBoolean() ? ";snow " + pick(0, 1, 2, 98, 99) : ";hat " + random.nextInt(8) + " " + pick(0, 1, 49, 50));
        }
        while (random.nextInt(3) == 0 && text.length() < 390) {
            text.append(";hat " + random.nextInt(8) + " " + number(0, 50));
        }
        return text.length() > 400 ? text.substring(0, 400) : text.toString();
    }

    private String plainDuchy() {
        StringBuilder text = new StringBuilder("duchy " + pick(0, 5, 10, 20, 50, 100) + " " + random.nextInt(5) + " "
                + random.nextInt(10));
        int houses = pick(0, 1, 2, 3, 4, 5, 8);
        for (int i = 0; i < houses; i++) {
            text.append(";house " + random.nextInt(100) + " " + pick(0, 1, 5, 20, 99) + " " + random.nextInt(12));
        }
        for (int i = random.nextInt(12); i > 0 && houses > 1; i--) {
            int a = random.nextInt(houses);
            text.append(";lane " + a + " " + (a + 1 + random.nextInt(houses - 1)) % houses);
        }
        for (int i = random.nextInt(4); i > 0 && houses > 0; i--) {
            text.append(";officer " + random.nextInt(houses) + " " + pick(1, 20, 60, 200));
            text.append(";hat " + random.nextInt(houses) + " " + random.nextInt(51));
        }
        for (int i = random.nextInt(4); i > 0; i--) {
            text.append(";snow " + pick(0, 1, 2, 3, 5, 9, 20));
        }
        return text.length() > 400 ? text.substring(0, 400) : text.toString();
    }

    private String sum() {
        StringBuilder text = new StringBuilder(value());
        for (int i = random.nextInt(4); i > 0; i--) {
            text.append(" +-*/%+*".charAt(1 + random.nextInt(7))).append(value());
        }
        return text.toString();
    }

    private String value() {
        return random.nextInt(3) == 0 ? "" + pick(0, 1, 2, 3, 7, 20, 99, 99999) : WORDS[random.nextInt(WORDS.length)];
    }

    private String test(int depth) {
        return switch (random.nextInt(depth > 4 ? 3 : 8)) {
            case 3 -> "not " + test(depth + 2);
            case 4 -> "[" + test(depth + 1) + "]";
            case 5 -> test(depth + 2) + " and " + test(depth + 2);
            case 6 -> test(depth + 2) + " or " + test(depth + 2);
            default -> sum() + new String[] {"<", "<=", "=", ">=", ">"}[random.nextInt(5)] + sum();
        };
    }

    private String rule() {
        return atTheBounds ? fullRule() : plainRule();
    }

    /** About twelve clauses, about sixty parts, or about ten deep. */
    private String fullRule() {
        String text = switch (random.nextInt(3)) {
            case 0 -> "call " + value() + (";call " + value()).repeat(pick(10, 11, 11, 12));
            case 1 -> "call 1" + ("+" + pick(1, 7, 99999)).repeat(pick(54, 55, 56)) + " if warmth>" + pick(0, 1, 50);
            default -> "call warmth if " + "[not ".repeat(pick(4, 5, 5)) + (random.nextInt(4) == 0 ? "[" : "") + sum() + "=" + sum();
        };
        int open = text.replace("]", "").length() - text.replace("]", "").replace("[", "").length();
        return text + "]".repeat(open) + (random.nextBoolean() ? "" : ";call since+tenth*room");
    }

    private String plainRule() {
        StringBuilder text = new StringBuilder();
        for (int i = random.nextInt(3); i >= 0; i--) {
            text.append(text.length() == 0 ? "call " : ";call ").append(sum());
            if (random.nextInt(5) < 2) {
                text.append(" if ").append(test(0));
            }
        }
        return text.length() > 400 ? "call warmth" : text.toString();
    }

    private String spoilt(String text) {
        StringBuilder bad = new StringBuilder(text);
        int at = random.nextInt(text.length() + 1);
        switch (random.nextInt(5)) {
            case 0 -> bad.delete(at, Math.min(bad.length(), at + 1 + random.nextInt(3)));
            case 1 -> bad.insert(at, " ;0[]<=%xZ\u00ff\u0000".charAt(random.nextInt(12)));
            case 2 -> bad.insert(at, new String[] {"not not not not ", "[[[[[[[", "+1+1+1+1+1+1+1+1+1", "123456", ";snow 1"}
                    [random.nextInt(5)]);
            case 3 -> bad.append((text.startsWith("call") ? ";call 1" : ";hat 0 1").repeat(random.nextInt(45)));
            default -> bad.setLength(at);
        }
        return bad.length() > 400 ? bad.substring(0, 400) : bad.toString();
    }
}
