import java.lang.reflect.InvocationTargetException;
import java.lang.reflect.Method;
import java.lang.reflect.Modifier;
import java.util.ArrayList;
import java.util.Comparator;
import java.util.List;
import java.util.Random;

/** No call throws, whatever it is asked, in any state; the same calls give the same answers. */
public final class NeverThrowsTest {
    private static final int[] ODD = {Integer.MIN_VALUE, Integer.MIN_VALUE + 1, -100, -3, -2, -1, 0, 1, 2, 3, 4, 5, 6, 7,
        8, 9, 10, 20, 59, 60, 61, 99, 100, 101, 200, 400, 401, 999, 1000, 9999, 10000, 65536, Integer.MAX_VALUE};
    private static final String[] PIECES = {"duchy 10 1 5", "duchy 100 20 50", ";house 99 99 20", ";house 50 9 3",
        ";lane 0 1", ";lane 1 2", ";hat 0 50", ";officer 0 200", ";officer 1 20", ";snow 3", "call ", "warmth", "wood",
        " if ", "not ", "[", "]", " and ", " or ", "since", "night", "*", "/", "%", "+", "-", "<=", "=", ">", "0",
        "1", "99999", ";call ", " ", "room", "123456"};

    public static void main(String[] args) throws Exception {
        Due due = new Due("NeverThrowsTest");
        List<Method> face = new ArrayList<>();
        for (Method m : FireTax.class.getDeclaredMethods()) {
            if (Modifier.isPublic(m.getModifiers())) {
                face.add(m);
            }
        }
        face.sort(Comparator.comparing(Method::getName));
        for (int seed = 0; seed < 150; seed++) {
            due.is("answers of run " + seed, run(face, seed, due), run(face, seed, due));
        }
        due.end();
    }

    private static int run(List<Method> face, int seed, Due due) throws Exception {
        Random random = new Random(seed);
        FireTax x = seed % 3 == 0 ? new FireTax()
                : Due.land("duchy 10 1 5;house 60 9 3;house 50 1 9;house 40 0 0;lane 0 1;lane 1 2;hat 0 20;hat 2 9;"
                        + "officer 0 90;officer 2 50;officer 1 200;snow 2", "call warmth", "call since*room%7+here");
        int hash = 0;
        for (int i = 0; i < 700; i++) {
            if (random.nextInt(12) == 0) {
                Due.tell(x, text(random));
                hash = hash * 31 + (random.nextBoolean() ? x.duchy() : x.rule());
                continue;
            }
            Method m = face.get(random.nextInt(face.size()));
            Object[] arguments = new Object[m.getParameterCount()];
            for (int k = 0; k < arguments.length; k++) {
                arguments[k] = random.nextInt(4) == 0 ? ODD[random.nextInt(ODD.length)] : random.nextInt(4);
            }
            try {
                hash = hash * 31 + (Integer) m.invoke(x, arguments);
            } catch (InvocationTargetException e) {
                due.is(m.getName() + " in run " + seed + " threw " + e.getCause(), 1, 0);
            }
        }
        return hash;
    }

    private static byte[] text(Random random) {
        StringBuilder text = new StringBuilder(random.nextInt(3) == 0 ? "duchy 30 2 9" : random.nextBoolean() ? "call 1" : "");
        int pieces = random.nextInt(40);
        for (int i = 0; i < pieces; i++) {
            text.append(PIECES[random.nextInt(PIECES.length)]);
        }
        byte[] bytes = new byte[Math.min(400, text.length())];
        for (int i = 0; i < bytes.length; i++) {
            bytes[i] = random.nextInt(300) == 0 ? (byte) random.nextInt(256) : (byte) text.charAt(i);
        }
        return bytes;
    }
}
