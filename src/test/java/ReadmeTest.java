import java.io.IOException;
import java.lang.reflect.Method;
import java.lang.reflect.Modifier;
import java.nio.file.DirectoryStream;
import java.nio.file.Files;
import java.nio.file.Path;
import java.util.List;
import java.util.Set;
import java.util.TreeSet;
import java.util.regex.Matcher;
import java.util.regex.Pattern;

/** README.md is true: its calls answer what it says, on the class and on the model, and it leaves no call out. */
public final class ReadmeTest {
    private static final Pattern TEXT = Pattern.compile("for \\(char letter : \"(\\w+)\"\\.toCharArray\\(\\)\\) \\{");
    private static final Pattern CALL = Pattern.compile("x\\.(\\w+)\\(([^)]*)\\);\\s+// (-?\\d+): .+");

    private final Due due = new Due("ReadmeTest");
    private final UnderLadders x = new UnderLadders();
    private final Model model = new Model();
    private final Set<String> told = new TreeSet<>();

    public static void main(String[] args) throws IOException, ReflectiveOperationException {
        ReadmeTest test = new ReadmeTest();
        List<String> lines = Files.readAllLines(Path.of("README.md"));
        boolean isJava = false;
        for (String line : lines) {
            if (line.startsWith("```")) {
                isJava = line.equals("```java");
            } else if (isJava) {
                test.readLine(line.trim());
            }
        }
        test.checkAllAreTold(String.join("\n", lines));
        test.due.end();
    }

    private void readLine(String line) throws ReflectiveOperationException {
        Matcher text = TEXT.matcher(line);
        Matcher call = CALL.matcher(line);
        if (text.matches()) {
            tell(text.group(1));
        } else if (call.matches()) {
            told.add(call.group(1));
            long want = Long.parseLong(call.group(3));
            due.is(line, answer(x, call.group(1), call.group(2)), want);
            due.is(line + " (the model)", answer(model, call.group(1), call.group(2)), want);
        } else {
            due.yes("a line that this test can read: " + line, Set.of("UnderLadders x = new UnderLadders();",
                    "x.write(letter);", "}").contains(line));
        }
    }

    private void tell(String text) {
        told.add("write");
        for (char letter : text.toCharArray()) {
            due.is("write " + letter, x.write(letter), model.write(letter));
        }
    }

    private static long answer(Object one, String name, String arguments) throws ReflectiveOperationException {
        String[] texts = arguments.isEmpty() ? new String[0] : arguments.split(", ");
        Class<?>[] types = methodOfFace(name).getParameterTypes();
        if (texts.length != types.length) {
            throw new IllegalStateException(name + " has " + types.length + " arguments");
        }
        Object[] values = new Object[texts.length];
        for (int i = 0; i < texts.length; i++) {
            values[i] = read(texts[i], types[i]);
        }
        Method method = one.getClass().getDeclaredMethod(name, types);
        return ((Number) method.invoke(one, values)).longValue();
    }

    private static Object read(String text, Class<?> type) {
        if (type == boolean.class) {
            return Boolean.valueOf(text);
        }
        String figures = text.replace("_", "").replace("L", "");
        return type == long.class ? (Object) Long.valueOf(figures) : (Object) Integer.valueOf(figures);
    }

    private static Method methodOfFace(String name) {
        for (Method method : UnderLadders.class.getDeclaredMethods()) {
            if (method.getName().equals(name) && Modifier.isPublic(method.getModifiers())) {
                return method;
            }
        }
        throw new IllegalStateException("there is no call " + name);
    }

    private void checkAllAreTold(String readme) throws IOException {
        for (Method method : UnderLadders.class.getDeclaredMethods()) {
            if (Modifier.isPublic(method.getModifiers())) {
                due.yes(method.getName() + " is shown", told.contains(method.getName()));
            }
        }
        for (Class<?> inside : UnderLadders.class.getDeclaredClasses()) {
            due.yes(inside.getSimpleName() + " is named", readme.contains("`" + inside.getSimpleName() + "`"));
        }
        try (DirectoryStream<Path> tests = Files.newDirectoryStream(Path.of("src/test/java"), "*{Test,Edges}.java")) {
            for (Path test : tests) {
                String name = test.getFileName().toString().replace(".java", "");
                due.yes(name + " is named", readme.contains("`" + name + "`"));
            }
        }
    }
}
