import java.io.IOException;
import java.lang.reflect.Constructor;
import java.lang.reflect.Field;
import java.lang.reflect.Method;
import java.lang.reflect.Modifier;
import java.nio.file.Files;
import java.nio.file.Path;
import java.util.TreeSet;
import java.util.regex.Matcher;
import java.util.regex.Pattern;

/** The public face is the document's, and the program leaves out what LANGUAGE.md leaves out. */
public final class FaceTest {
    private static final String FACE = """
            public final ShapeForms
            public static final int NONE
            public ()
            public boolean corner(int,long,long) IndexOutOfBounds IllegalState IllegalArgument
            public boolean inside(int,long,long) IndexOutOfBounds IllegalState IllegalArgument
            public boolean ring(int) IndexOutOfBounds IllegalState
            public boolean same(int,int) IndexOutOfBounds IllegalState
            public int box(long,long,long,long,long) IllegalArgument
            public int circle(long,long,long) IllegalArgument
            public int grow(int,long) IndexOutOfBounds IllegalState IllegalArgument
            public int kind(int) IndexOutOfBounds
            public int nearer(int,int,long) IndexOutOfBounds IllegalState IllegalArgument
            public int polygon()
            public int trace(long) IllegalArgument
            public int turn(int,int,boolean) IndexOutOfBounds IllegalState
            public long boxOf(int,int) IndexOutOfBounds IllegalState
            """;

    /** All that the program uses of the library: rule 4 lists functions of Long and Math, and none of their constants. */
    private static final String LIBRARY = "[Long.compare(), Math.abs(), Math.floorMod(), Math.max(), Math.min()]";

    public static void main(String[] args) throws IOException {
        Check.due("the face", FACE, FaceTest::face);
        Path program = Path.of(args.length > 0 ? args[0] : "src/main/java/ShapeForms.java");
        String source = withoutComments(Files.readString(program));
        for (String word : new String[] {"import", "package", "try", "catch", "finally", "synchronized", "assert",
                "native", "protected", "double", "float", "var"}) {
            Check.due("the program has no " + word, false, () -> has(source, "\\b" + word + "\\b"));
        }
        Check.due("no lambda", false, () -> has(source, "->"));
        Check.due("no method reference", false, () -> has(source, "::"));
        Check.due("of the library, only functions that LANGUAGE.md lists", LIBRARY, () -> libraryOf(source));
        Check.due("at most twelve classes", true, () -> ShapeForms.class.getDeclaredClasses().length < 12);
        for (Class<?> inner : ShapeForms.class.getDeclaredClasses()) {
            Check.due(inner + " is static", true, () -> Modifier.isStatic(inner.getModifiers()));
        }
        Check.due("methods take at most seven parameters", true, FaceTest::fewParameters);
        Check.end("FaceTest");
    }

    private static String face() {
        StringBuilder text = new StringBuilder();
        text.append(Modifier.toString(ShapeForms.class.getModifiers())).append(" ShapeForms\n");
        for (Field field : ShapeForms.class.getDeclaredFields()) {
            if (!Modifier.isPrivate(field.getModifiers())) {
                text.append(Modifier.toString(field.getModifiers())).append(' ').append(field.getType()).append(' ')
                        .append(field.getName()).append('\n');
            }
        }
        for (Constructor<?> made : ShapeForms.class.getDeclaredConstructors()) {
            text.append(Modifier.toString(made.getModifiers())).append(' ')
                    .append(parameters(made.getParameterTypes())).append('\n');
        }
        TreeSet<String> methods = new TreeSet<>();
        TreeSet<String> names = new TreeSet<>();
        for (Method method : ShapeForms.class.getDeclaredMethods()) {
            if (Modifier.isPrivate(method.getModifiers())) {
                names.add(method.getName());
            } else {
                methods.add(Modifier.toString(method.getModifiers()) + " " + method.getReturnType() + " "
                        + method.getName() + parameters(method.getParameterTypes()) + thrown(method));
            }
        }
        for (String method : methods) {
            text.append(method).append('\n');
            if (names.contains(method.replaceAll(".* (\\w+)\\(.*", "$1"))) {
                text.append("a private method bears that name, too\n");
            }
        }
        return text.toString();
    }

    private static String parameters(Class<?>[] types) {
        StringBuilder text = new StringBuilder("(");
        for (Class<?> type : types) {
            text.append(text.length() > 1 ? "," : "").append(type.getSimpleName());
        }
        return text.append(')').toString();
    }

    private static String thrown(Method method) {
        StringBuilder text = new StringBuilder();
        for (Class<?> type : method.getExceptionTypes()) {
            text.append(' ').append(type.getSimpleName().replace("Exception", ""));
        }
        return text.toString();
    }

    private static boolean fewParameters() {
        boolean few = takesAtMostSeven(ShapeForms.class);
        for (Class<?> inner : ShapeForms.class.getDeclaredClasses()) {
            few &= takesAtMostSeven(inner);
        }
        return few;
    }

    private static boolean takesAtMostSeven(Class<?> type) {
        boolean few = true;
        for (Method method : type.getDeclaredMethods()) {
            few &= method.getParameterCount() <= 7;
        }
        return few;
    }

    /** Each Name.member of a class that is not the program's own, a function with its brackets. */
    private static String libraryOf(String source) {
        TreeSet<String> own = new TreeSet<>();
        for (Class<?> inner : ShapeForms.class.getDeclaredClasses()) {
            own.add(inner.getSimpleName());
        }
        TreeSet<String> used = new TreeSet<>();
        Matcher matcher = Pattern.compile("\\b([A-Z]\\w*)\\s*\\.\\s*(\\w+)(\\s*\\()?").matcher(source);
        while (matcher.find()) {
            if (!own.contains(matcher.group(1))) {
                used.add(matcher.group(1) + "." + matcher.group(2) + (matcher.group(3) == null ? "" : "()"));
            }
        }
        return used.toString();
    }

    private static String withoutComments(String source) {
        return source.replaceAll("(?s)/\\*.*?\\*/", "").replaceAll("//[^\n]*", "");
    }

    private static boolean has(String source, String pattern) {
        Matcher matcher = Pattern.compile(pattern).matcher(source);
        return matcher.find();
    }
}
