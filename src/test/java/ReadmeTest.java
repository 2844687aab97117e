import java.io.IOException;
import java.lang.reflect.Method;
import java.nio.file.Files;
import java.nio.file.Path;
import java.util.Set;
import java.util.TreeSet;
import java.util.regex.Matcher;
import java.util.regex.Pattern;

/** README.md tells a day and calls on it with their answers: the class must answer just so. */
public final class ReadmeTest {
    private static final Pattern CALL = Pattern.compile("meals\\.(\\w+)\\(([-0-9, ]*)\\); +// (\\S+)");
    private static final Check CHECK = new Check("ReadmeTest");

    private ReadmeTest() {
    }

    public static void main(String[] args) throws IOException, ReflectiveOperationException {
        String page = Files.readString(Path.of("README.md"));
        NoonMeals meals = new NoonMeals();
        CHECK.due("houses of the page's text", 2, Check.tell(meals, block(page, "text").replace("\n", " ")));
        Set<String> asked = new TreeSet<>(Set.of("feed", "day", "fault", "where"));
        Matcher calls = CALL.matcher(page);
        while (calls.find()) {
            String answer = String.valueOf(ask(meals, calls.group(1), calls.group(2)));
            CHECK.due(calls.group() + " answered " + answer, true, answer.equals(calls.group(3)));
            asked.add(calls.group(1));
        }
        for (Method method : NoonMeals.class.getMethods()) {
            boolean isOfTheFace = method.getDeclaringClass() == NoonMeals.class;
            CHECK.due("the page shows " + method.getName(), isOfTheFace, asked.contains(method.getName()));
        }
        CHECK.end();
    }

    private static String block(String page, String kind) {
        int from = page.indexOf("```" + kind + "\n") + kind.length() + 4;
        return page.substring(from, page.indexOf("```", from)).strip();
    }

    private static Object ask(NoonMeals meals, String name, String numbers) throws ReflectiveOperationException {
        String[] parts = numbers.isEmpty() ? new String[0] : numbers.split(", ");
        Class<?>[] types = new Class<?>[parts.length];
        Object[] values = new Object[parts.length];
        for (int i = 0; i < parts.length; i++) {
            types[i] = int.class;
            values[i] = Integer.valueOf(parts[i]);
        }
        return NoonMeals.class.getMethod(name, types).invoke(meals, values);
    }
}
