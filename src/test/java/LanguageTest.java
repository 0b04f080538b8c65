import java.lang.reflect.Constructor;
import java.lang.reflect.Field;
import java.lang.reflect.Method;
import java.lang.reflect.Modifier;
import java.nio.file.Files;
import java.nio.file.Path;
import java.util.Set;
import java.util.TreeSet;
import java.util.regex.Matcher;
import java.util.regex.Pattern;

/** The rules of LANGUAGE.md that can be looked at from outside; run from the project's folder. */
public final class LanguageTest {
    private static final String FACE = "feed5 end1 duchy0 rule0 force1 house2 officer2 night0 fell2 lend3 hide2 "
            + "lift1 spit1 undo0 ahead3 freezes1 round3 span3 logs2 rate1 levy2 district2 hats2 loan3 book3 ruled1 "
            + "look2 seed1 winters4 count1 image1 back1";
    private static final String FORBIDDEN = "\\b(throw|throws|try|catch|finally|synchronized|assert|package|volatile|native"
            + "|random|Random|Thread|System\\.(?!arraycopy)\\w+|hashCode|getClass|\\w+Exact)\\b|::"
            + "|import (?!java\\.util\\.(ArrayList|List|Arrays|Iterator);)";

    public static void main(String[] args) throws Exception {
        Due due = new Due("LanguageTest");
        face(due);
        nestedClasses(due);
        String code = withoutCommentsAndTexts(Files.readString(Path.of("src/main/java/FireTax.java")));
        words(due, code);
        methods(due, code);
        due.end();
    }

    private static void face(Due due) {
        Set<String> found = new TreeSet<>();
        Set<String> names = new TreeSet<>();
        for (Method m : FireTax.class.getDeclaredMethods()) {
            boolean open = Modifier.isPublic(m.getModifiers());
            due.is(m + " is public or private", open || Modifier.isPrivate(m.getModifiers()) ? 1 : 0, 1);
            if (open) {
                names.add(m.getName());
                found.add(m.getName() + m.getParameterCount());
                due.is(m + " answers an int", m.getReturnType() == int.class ? 1 : 0, 1);
                for (Class<?> type : m.getParameterTypes()) {
                    due.is(m + " takes ints", type == int.class ? 1 : 0, 1);
                }
            }
        }
        due.is("the face", found.equals(new TreeSet<>(Set.of(FACE.split(" ")))) ? 1 : 0, 1);
        due.is("final", Modifier.isFinal(FireTax.class.getModifiers()) ? 1 : 0, 1);
        Constructor<?>[] made = FireTax.class.getDeclaredConstructors();
        due.is("one constructor", made.length, 1);
        due.is("without arguments", made[0].getParameterCount(), 0);
        for (Field f : FireTax.class.getDeclaredFields()) {
            boolean none = f.getName().equals("NONE");
            due.is(f + " is private, or NONE", Modifier.isPublic(f.getModifiers()) == none ? 1 : 0, 1);
            due.is(f + " not open", none || Modifier.isPrivate(f.getModifiers()) ? 1 : 0, 1);
        }
        privateNames(due, FireTax.class, names);
        for (Class<?> c : FireTax.class.getDeclaredClasses()) {
            privateNames(due, c, names);
        }
    }

    private static void privateNames(Due due, Class<?> c, Set<String> names) {
        for (Method m : c.getDeclaredMethods()) {
            boolean taken = Modifier.isPrivate(m.getModifiers()) && names.contains(m.getName());
            due.is(m + " has a name of its own", taken ? 1 : 0, 0);
        }
    }

    private static void nestedClasses(Due due) {
        Class<?>[] classes = FireTax.class.getDeclaredClasses();
        due.is("at most twelve classes", classes.length + 1 <= 12 ? 1 : 0, 1);
        for (Class<?> c : classes) {
            due.is(c + " is static", Modifier.isStatic(c.getModifiers()) ? 1 : 0, 1);
            due.is(c + " is not public", Modifier.isPublic(c.getModifiers()) ? 1 : 0, 0);
            fields(due, c);
        }
        fields(due, FireTax.class);
    }

    private static void fields(Due due, Class<?> c) {
        int own = 0;
        for (Field f : c.getDeclaredFields()) {
            boolean isStatic = Modifier.isStatic(f.getModifiers());
            own += isStatic ? 0 : 1;
            due.is(f + " is final if static", !isStatic || Modifier.isFinal(f.getModifiers()) ? 1 : 0, 1);
            Class<?> type = f.getType().isArray() ? f.getType().getComponentType() : f.getType();
            boolean plain = type.isPrimitive() || type == String.class || type.isEnum();
            due.is(f + " is plain if static", !isStatic || plain ? 1 : 0, 1);
        }
        due.is(c + " has at most twenty fields", own <= 20 ? 1 : 0, 1);
    }

    private static String withoutCommentsAndTexts(String source) {
        return Pattern.compile("(?s)/\\*.*?\\*/").matcher(source).replaceAll("")
                .replaceAll("//[^\n]*", "").replaceAll("\"(\\\\.|[^\"\\\\])*\"", "\"\"").replaceAll("'(\\\\.|[^'\\\\])'", "' '");
    }

    private static void words(Due due, String code) {
        Matcher m = Pattern.compile(FORBIDDEN).matcher(code);
        while (m.find()) {
            due.is("no '" + m.group() + "'", 1, 0);
        }
        due.is("texts are not joined by +", code.contains("\"\" +") || code.contains("+ \"\"") ? 1 : 0, 0);
        due.is("no while (true)", code.contains("while (true)") || code.contains("for (;;)") ? 1 : 0, 0);
        Matcher arrow = Pattern.compile("(.*)->").matcher(code);
        while (arrow.find()) {
            boolean inSwitch = arrow.group(1).trim().startsWith("case ") || arrow.group(1).trim().equals("default");
            due.is("no lambda: " + arrow.group(), inSwitch ? 1 : 0, 1);
        }
    }

    private static void methods(Due due, String code) {
        Matcher m = Pattern.compile("\n(    |        )((?:private |public |static |final )*)([\\w\\[\\]]+ )?(\\w+)\\(([^)]*)\\)\\s*\\{\n")
                .matcher(code);
        int found = 0;
        while (m.find()) {
            found++;
            String end = "\n" + m.group(1) + "}\n";
            int lines = (int) code.substring(m.end() - 1, code.indexOf(end, m.end() - 1)).lines().count();
            due.is(m.group(4) + " stays short", lines <= 60 ? 1 : 0, 1);
            int parameters = m.group(5).isBlank() ? 0 : m.group(5).split(",").length;
            due.is(m.group(4) + " takes at most seven", parameters <= 7 ? 1 : 0, 1);
        }
        due.is("methods were looked at", found > 0 ? 1 : 0, 1);
    }
}
