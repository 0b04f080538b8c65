import java.lang.reflect.Method;
import java.lang.reflect.Modifier;
import java.nio.file.Files;
import java.nio.file.Path;
import java.util.ArrayList;
import java.util.HashMap;
import java.util.HashSet;
import java.util.List;
import java.util.Map;
import java.util.Set;
import java.util.regex.Matcher;
import java.util.regex.Pattern;

/**
 * The calls that README.md shows are made as they stand there, and answered as it tells; run from the project's folder.
 * Every call of the face is shown.
 */
public final class ReadmeTest {
    private static final String FIRST_LINE = "FireTax x = new FireTax();";
    /** A call, and behind // its answer. */
    private static final Pattern CALL = Pattern.compile("x\\.(\\w+)\\((.*)\\); +// (-?\\d+)(:.*)?");
    private static final Pattern TELL = Pattern.compile("tell\\(x, \"(.*)\"\\); +// (-?\\d+)(:.*)?");

    public static void main(String[] args) throws Exception {
        Due due = new Due("ReadmeTest");
        String readme = Files.readString(Path.of("README.md"));
        List<List<String>> blocks = javaBlocks(readme);
        int examples = 0;
        for (List<String> block : blocks) {
            if (block.get(0).equals(FIRST_LINE)) {
                examples++;
                example(due, block);
            } else {
                isOfTheTests(due, block);
            }
        }
        due.is("there is an example", examples, 1);
        namesAreThere(due, readme);
        due.end();
    }

    private static List<List<String>> javaBlocks(String readme) {
        List<List<String>> blocks = new ArrayList<>();
        Matcher m = Pattern.compile("(?s)```java\n(.*?)\n```").matcher(readme);
        while (m.find()) {
            blocks.add(m.group(1).lines().toList());
        }
        return blocks;
    }

    private static Map<String, Method> face() {
        Map<String, Method> face = new HashMap<>();
        for (Method m : FireTax.class.getDeclaredMethods()) {
            if (Modifier.isPublic(m.getModifiers())) {
                face.put(m.getName(), m);
            }
        }
        return face;
    }

    private static void example(Due due, List<String> lines) throws Exception {
        Map<String, Method> face = face();
        Set<String> shown = new HashSet<>();
        FireTax x = new FireTax();
        for (String line : lines.subList(1, lines.size())) {
            Matcher call = CALL.matcher(line);
            Matcher tell = TELL.matcher(line);
            if (call.matches()) {
                due.is("README: a call of the face: " + line, face.containsKey(call.group(1)) ? 1 : 0, 1);
                shown.add(call.group(1));
                due.is("README: " + line, answer(x, face.get(call.group(1)), call.group(2)), Integer.parseInt(call.group(3)));
            } else if (tell.matches()) {
                due.is("README: " + line, Due.tell(x, tell.group(1)), Integer.parseInt(tell.group(2)));
            } else {
                due.is("README: neither a call nor a remark: " + line, line.isEmpty() || line.startsWith("// ") ? 1 : 0, 1);
            }
        }
        for (String name : face.keySet()) {
            due.is("README shows " + name, shown.contains(name) ? 1 : 0, 1);
        }
    }

    private static int answer(FireTax x, Method method, String numbers) throws Exception {
        String[] texts = numbers.isEmpty() ? new String[0] : numbers.split(", ");
        Object[] arguments = new Object[texts.length];
        for (int i = 0; i < texts.length; i++) {
            arguments[i] = texts[i].equals("FireTax.NONE") ? FireTax.NONE : Long.decode(texts[i]).intValue();
        }
        return (Integer) method.invoke(x, arguments);
    }

    /** The method that README.md shows is the one by which the tests put texts on the tape. */
    private static void isOfTheTests(Due due, List<String> lines) throws Exception {
        String own = Files.readString(Path.of("src/test/java/Due.java"));
        StringBuilder indented = new StringBuilder();
        for (String line : lines) {
            indented.append("    ").append(line).append('\n');
        }
        due.is("README: as in Due.java: " + lines.get(0), own.contains(indented) ? 1 : 0, 1);
    }

    /** Each call is named in the table, and each kind of test in what is told of the tests. */
    private static void namesAreThere(Due due, String readme) {
        String table = readme.substring(readme.indexOf("### The calls"), readme.indexOf("## Tests"));
        for (String name : face().keySet()) {
            due.is("README: the table has " + name, table.contains("`" + name + "`") ? 1 : 0, 1);
        }
        String tests = readme.substring(readme.indexOf("## Tests"));
        for (String name : new String[] {".ci/run", "javac", "../shared/tests", "ReadmeTest"}) {
            due.is("README: of the tests: " + name, tests.contains(name) ? 1 : 0, 1);
        }
    }
}
