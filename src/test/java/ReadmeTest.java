import java.io.File;
import java.lang.reflect.Method;
import java.lang.reflect.Modifier;
import java.nio.file.Files;
import java.nio.file.Path;
import java.util.HashMap;
import java.util.Map;
import java.util.regex.Matcher;
import java.util.regex.Pattern;

/** README.md: its example answers what it says there, and it leaves out no call and no test. */
public final class ReadmeTest {
    private static final Pattern TEXT = Pattern.compile("String text = \"([^\"]*)\";");
    private static final Pattern CALL = Pattern.compile("(?m)^x\\.(\\w+)\\(([^)]*)\\); +// (-?\\d+): ");
    private static final Due DUE = new Due();

    public static void main(String[] args) throws Exception {
        String page = Files.readString(Path.of("README.md"));
        Map<String, Method> face = face();
        example(page, face);
        everyCall(page, face);
        everyTest(page);
        DUE.end();
    }

    private static Map<String, Method> face() {
        Map<String, Method> face = new HashMap<>();
        for (Method m : SpringPawn.class.getDeclaredMethods()) {
            if (Modifier.isPublic(m.getModifiers())) {
                face.put(m.getName(), m);
            }
        }
        return face;
    }

    private static void example(String page, Map<String, Method> face) throws Exception {
        SpringPawn x = new SpringPawn();
        Matcher text = TEXT.matcher(page);
        DUE.is("the example has a text", text.find() ? 1 : 0, 1);
        Due.type(x, text.group(1));
        Matcher call = CALL.matcher(page);
        int calls = 0;
        while (call.find()) {
            Object answer = face.get(call.group(1)).invoke(x, numbers(call.group(2)));
            DUE.is("README.md: " + call.group().trim(), ((Number) answer).longValue(), Long.parseLong(call.group(3)));
            calls++;
        }
        long written = page.lines().filter(line -> line.startsWith("x.")).count();
        DUE.is("how many calls of the example say what they answer", calls, written);
        DUE.is("the example has calls", calls > 0 ? 1 : 0, 1);
    }

    private static Object[] numbers(String list) {
        if (list.isEmpty()) {
            return new Object[0];
        }
        String[] words = list.split(", ");
        Object[] numbers = new Object[words.length];
        for (int i = 0; i < words.length; i++) {
            numbers[i] = Integer.parseInt(words[i]);
        }
        return numbers;
    }

    /** A call stands in the table with as many arguments as it takes. */
    private static void everyCall(String page, Map<String, Method> face) {
        for (Method m : face.values()) {
            String arguments = "\\w+, ".repeat(m.getParameterCount()).replaceFirst(", $", "");
            boolean there = Pattern.compile("`" + m.getName() + "\\(" + arguments + "\\)`").matcher(page).find();
            DUE.is("README.md names " + m.getName(), there ? 1 : 0, 1);
        }
    }

    private static void everyTest(String page) {
        String[] names = new File("src/test/java").list((folder, name) -> name.endsWith("Test.java"));
        DUE.is("tests were found", names != null && names.length > 0 ? 1 : 0, 1);
        for (String name : names) {
            String row = "| `" + name.replace(".java", "") + "` |";
            DUE.is("README.md names " + name, page.contains(row) ? 1 : 0, 1);
        }
    }
}
