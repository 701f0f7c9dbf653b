import java.lang.reflect.Method;
import java.nio.file.Files;
import java.nio.file.Path;
import java.util.TreeSet;
import java.util.regex.Matcher;
import java.util.regex.Pattern;

/** README.md's examples, made as they stand there on one object, with the answers that it tells. */
final class ReadmeTest {
    private static final Check CHECK = new Check("ReadmeTest");
    private static final Pattern BLOCK = Pattern.compile("```java\n(.*?)```", Pattern.DOTALL);
    private static final Pattern WRITE = Pattern.compile("write\\(tub, \"([^\"]*)\"\\);");
    private static final Pattern CALL =
            Pattern.compile("tub\\.(\\w+)\\(([-\\d, ]*)\\); +// (-?\\d+|[A-Z]+)\\b.*");
    private static final int MOST_CALLS = 512;

    private static final TreeSet<String> UNCALLED = new TreeSet<>();
    private static SieveTub tub;
    private static int calls;

    public static void main(String[] args) throws Exception {
        for (Method method : SieveTub.class.getDeclaredMethods()) {
            if (java.lang.reflect.Modifier.isPublic(method.getModifiers())) {
                UNCALLED.add(method.getName());
            }
        }
        Matcher block = BLOCK.matcher(Files.readString(Path.of("README.md")));
        while (block.find()) {
            // the block that says how to write a text is Check.write
            if (!block.group(1).startsWith("static void write(")) {
                for (String line : block.group(1).split("\n")) {
                    follow(line);
                }
            }
        }
        CHECK.due("calls of one object " + calls, calls > 0 && calls <= MOST_CALLS ? 1 : 0, 1);
        CHECK.due("calls that README.md does not show " + UNCALLED, UNCALLED.size(), 0);
        CHECK.end();
    }

    private static void follow(String line) throws Exception {
        Matcher write = WRITE.matcher(line);
        Matcher call = CALL.matcher(line);
        if (line.equals("SieveTub tub = new SieveTub();")) {
            tub = new SieveTub();
        } else if (write.matches()) {
            Check.write(tub, write.group(1));
            calls += write.group(1).length();
            UNCALLED.remove("write");
        } else if (call.matches()) {
            CHECK.due(line, answer(call.group(1), call.group(2)), told(call.group(3)));
            calls++;
            UNCALLED.remove(call.group(1));
        } else {
            CHECK.fail("a line of README.md that is no example: " + line);
        }
    }

    private static int answer(String name, String arguments) throws Exception {
        String[] numbers = arguments.isEmpty() ? new String[0] : arguments.split(", ");
        Class<?>[] types = new Class<?>[numbers.length];
        Object[] values = new Object[numbers.length];
        for (int i = 0; i < numbers.length; i++) {
            types[i] = int.class;
            values[i] = Integer.parseInt(numbers[i]);
        }
        return (Integer) SieveTub.class.getMethod(name, types).invoke(tub, values);
    }

    private static int told(String answer) throws Exception {
        boolean isName = Character.isUpperCase(answer.charAt(0));
        return isName ? SieveTub.class.getField(answer).getInt(null) : Integer.parseInt(answer);
    }
}
