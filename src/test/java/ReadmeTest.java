import java.io.IOException;
import java.lang.reflect.Field;
import java.lang.reflect.Method;
import java.lang.reflect.Modifier;
import java.nio.file.Files;
import java.nio.file.Path;
import java.util.ArrayList;
import java.util.Arrays;
import java.util.List;
import java.util.regex.Matcher;
import java.util.regex.Pattern;
import java.util.stream.Stream;

/** README.md: its examples answer what it says, and it names all that there is to call and to run. */
public final class ReadmeTest {
    private static final Pattern CALL = Pattern.compile("x\\.(\\w+)\\(([^)]*)\\);");
    private static final Pattern ANSWER = Pattern.compile("// answers (-?\\d+)\\b.*");
    private static final String MADE = "FreshShares x = new FreshShares();";

    private static int wrong = 0;
    private static int answers = 0;

    public static void main(String[] args) throws Exception {
        List<String> page = Files.readAllLines(Path.of("README.md"));
        FreshShares x = null;
        boolean inExample = false;
        for (String line : page) {
            if (line.startsWith("```")) {
                inExample = line.equals("```java");
                x = null;
            } else if (inExample && line.equals(MADE)) {
                x = new FreshShares();
            } else if (inExample) {
                runLine(x, line);
            }
        }
        due("some examples tell answers", true, answers > 20);
        namesAll(String.join("\n", page));
        System.out.println(wrong == 0 ? "README.md is right" : wrong + " things in README.md are not as due");
        if (wrong != 0) {
            System.exit(1);
        }
    }

    private static void due(String what, Object want, Object got) {
        if (!want.equals(got)) {
            wrong++;
            System.out.println(what + ": " + got + ", due is " + want);
        }
    }

    /** Does the calls of a line; the answer that is told behind it is that of the last one. */
    private static void runLine(FreshShares x, String line) throws ReflectiveOperationException {
        Matcher call = CALL.matcher(line);
        int end = 0;
        Object answer = "nothing";
        while (call.find()) {
            due("between calls: " + line, true, line.substring(end, call.start()).isBlank());
            answer = call(x, call.group(1), call.group(2));
            end = call.end();
        }
        String rest = line.substring(end).strip();
        Matcher told = ANSWER.matcher(rest);
        if (told.matches()) {
            answers++;
            due(line, Integer.valueOf(told.group(1)), answer);
        } else {
            due("behind the calls: " + line, "", rest);
        }
    }

    private static Object call(FreshShares x, String name, String arguments) throws ReflectiveOperationException {
        List<Object> numbers = new ArrayList<>();
        for (String one : arguments.isEmpty() ? new String[0] : arguments.split(", ")) {
            numbers.add(one.startsWith("'") ? (int) one.charAt(1) : Integer.parseInt(one));
        }
        Class<?>[] types = new Class<?>[numbers.size()];
        Arrays.fill(types, int.class);
        return FreshShares.class.getMethod(name, types).invoke(x, numbers.toArray());
    }

    private static void namesAll(String page) throws IOException {
        for (Method m : FreshShares.class.getDeclaredMethods()) {
            if (Modifier.isPublic(m.getModifiers())) {
                due("a line for " + m.getName(), true, page.contains("\n| `" + m.getName() + "("));
            }
        }
        for (Field f : FreshShares.class.getDeclaredFields()) {
            if (Modifier.isPublic(f.getModifiers())) {
                due("the constant " + f.getName(), true, page.contains("`" + f.getName() + "` " + constant(f)));
            }
        }
        try (Stream<Path> files = Files.list(Path.of("src/test/java"))) {
            for (Path file : files.toList()) {
                String name = file.getFileName().toString().replace(".java", "");
                due("the file " + name, true, page.contains("`" + name + "`"));
            }
        }
    }

    private static int constant(Field f) {
        try {
            return f.getInt(null);
        } catch (IllegalAccessException e) {
            throw new IllegalStateException(e);
        }
    }
}
