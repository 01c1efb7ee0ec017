import java.io.IOException;
import java.lang.reflect.InvocationTargetException;
import java.lang.reflect.Method;
import java.lang.reflect.Modifier;
import java.nio.file.Files;
import java.nio.file.Path;
import java.util.Map;
import java.util.TreeMap;
import java.util.TreeSet;
import java.util.regex.Matcher;
import java.util.regex.Pattern;

/**
 * README.md's calls are made, each block of Java on a new object, and each must answer what stands behind it:
 * its answer, or throws and the exception's name, before a colon or the row's end.
 */
public final class ReadmeTest {
    private static final Pattern BLOCK = Pattern.compile("(?s)```java\n(.*?)```");
    private static final Pattern CALL =
            Pattern.compile("(?:int (\\w+) = )?forms\\.(\\w+)\\((.*)\\);\\s+// ([-\\w]+(?: \\w+Exception)?)(?::.*)?");
    private static final String NEW_OBJECT = "ShapeForms forms = new ShapeForms();";

    private final ShapeForms forms = new ShapeForms();
    private final Map<String, Integer> numbers = new TreeMap<>();

    public static void main(String[] args) throws IOException {
        String readme = Files.readString(Path.of("README.md"));
        TreeSet<String> called = new TreeSet<>();
        int blocks = 0;
        Matcher block = BLOCK.matcher(readme);
        while (block.find()) {
            blocks++;
            new ReadmeTest().run(block.group(1), called);
        }
        Check.due("README.md has blocks of calls", true, () -> BLOCK.matcher(readme).find());
        Check.due("README.md calls all of the face", face(), called::toString);
        Check.due("README.md says how the tests are run", true, () -> readme.contains("```sh\n.ci/run\n```"));
        System.out.println("blocks of calls: " + blocks);
        Check.end("ReadmeTest");
    }

    private static String face() {
        TreeSet<String> names = new TreeSet<>();
        for (Method method : ShapeForms.class.getDeclaredMethods()) {
            if (Modifier.isPublic(method.getModifiers())) {
                names.add(method.getName());
            }
        }
        return names.toString();
    }

    private void run(String block, TreeSet<String> called) {
        String[] rows = block.split("\n");
        Check.due("README.md: a block begins with a new object", NEW_OBJECT, () -> rows[0]);
        for (int i = 1; i < rows.length; i++) {
            String row = rows[i];
            Matcher call = CALL.matcher(row);
            Check.due("README.md: a call with its answer: " + row, true, call::matches);
            if (call.matches()) {
                called.add(call.group(2));
                make(row, call);
            }
        }
    }

    private void make(String row, Matcher call) {
        String want = call.group(4).replace("throws ", "throws.");
        Object[] answer = new Object[1];
        Check.due("README.md: " + row, want, () -> answer[0] = answerOf(call.group(2), call.group(3)));
        if (call.group(1) != null && answer[0] instanceof Integer number) {
            numbers.put(call.group(1), number);
        }
    }

    private Object answerOf(String name, String written) {
        String[] words = written.isEmpty() ? new String[0] : written.split(", ");
        for (Method method : ShapeForms.class.getDeclaredMethods()) {
            if (method.getName().equals(name) && method.getParameterCount() == words.length) {
                return invoke(method, words);
            }
        }
        return "no such call";
    }

    private Object invoke(Method method, String[] words) {
        Object[] values = new Object[words.length];
        for (int i = 0; i < words.length; i++) {
            values[i] = value(method.getParameterTypes()[i], words[i]);
        }
        try {
            return method.invoke(forms, values);
        } catch (InvocationTargetException e) {
            return "throws." + e.getCause().getClass().getSimpleName();
        } catch (IllegalAccessException e) {
            return "no public call";
        }
    }

    private Object value(Class<?> type, String word) {
        if (type == boolean.class) {
            return Boolean.valueOf(word);
        }
        Integer number = numbers.get(word);
        String digits = number == null ? word.replace("_", "") : number.toString();
        return type == int.class ? (Object) Integer.valueOf(digits) : (Object) Long.valueOf(digits);
    }
}
