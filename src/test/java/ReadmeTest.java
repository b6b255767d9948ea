import java.lang.reflect.Method;
import java.lang.reflect.Modifier;
import java.nio.file.Files;
import java.nio.file.Path;
import java.util.TreeSet;
import java.util.regex.Matcher;
import java.util.regex.Pattern;

/** README.md's example answers as the class does, and README.md tells of each call of the face. */
public final class ReadmeTest {
    private static final Pattern EXAMPLE = Pattern.compile("(?s)```java\n(.*?)```");
    private static final Pattern CALL = Pattern.compile("x\\.(\\w+)\\(([^)]*)\\);\\s*// (-?\\w+)(:.*)?");
    private static final Check CHECK = new Check("ReadmeTest");

    public static void main(String[] args) throws Exception {
        String readme = Files.readString(Path.of("README.md"));
        TreeSet<String> shown = new TreeSet<>();
        Matcher example = EXAMPLE.matcher(readme);
        CHECK.isTrue("README.md has an example", example.find());
        example(example.group(1), shown);
        for (Method m : BlockMarker.class.getDeclaredMethods()) {
            if (Modifier.isPublic(m.getModifiers())) {
                CHECK.isTrue("README.md tells of " + m.getName() + "()", readme.contains("| `" + told(m, readme)));
                CHECK.isTrue("the example has " + m.getName() + "()", shown.contains(m.getName()));
            }
        }
        CHECK.end();
    }

    /** The row of the table of calls: the name with as many parameters as the method has. */
    private static String told(Method m, String readme) {
        Matcher row = Pattern.compile("\\| `(" + m.getName() + "\\(([^)]*)\\))`").matcher(readme);
        if (!row.find()) {
            return m.getName() + "(..) in no row";
        }
        String between = row.group(2);
        int many = between.isBlank() ? 0 : between.split(",").length;
        CHECK.same("parameters of " + m.getName() + "() as README.md tells them", many, m.getParameterCount());
        return row.group(1);
    }

    private static void example(String code, TreeSet<String> shown) throws Exception {
        BlockMarker x = new BlockMarker();
        for (String line : code.split("\n")) {
            if (line.isBlank() || line.equals("BlockMarker x = new BlockMarker();")) {
                continue;
            }
            Matcher call = CALL.matcher(line);
            CHECK.isTrue("a call with its answer: " + line, call.matches());
            if (call.matches()) {
                shown.add(call.group(1));
                CHECK.same("README.md: " + line, answerOf(x, call.group(1), call.group(2)), numberOf(call.group(3)));
            }
        }
    }

    private static long answerOf(BlockMarker x, String name, String arguments) throws Exception {
        String[] texts = arguments.isBlank() ? new String[0] : arguments.split(",\\s*");
        for (Method m : BlockMarker.class.getDeclaredMethods()) {
            if (m.getName().equals(name) && m.getParameterCount() == texts.length) {
                Object[] values = new Object[texts.length];
                for (int i = 0; i < texts.length; i++) {
                    Class<?> type = m.getParameterTypes()[i];
                    values[i] = type == boolean.class ? (Object) Boolean.valueOf(texts[i])
                        : type == long.class ? (Object) Long.valueOf(texts[i]) : (Object) Integer.valueOf(texts[i]);
                }
                return ((Number) m.invoke(x, values)).longValue();
            }
        }
        throw new IllegalStateException("README.md: there is no " + name + "(" + arguments + ")");
    }

    private static long numberOf(String answer) throws Exception {
        boolean isName = Character.isLetter(answer.charAt(0));
        return isName ? BlockMarker.class.getField(answer).getInt(null) : Long.parseLong(answer);
    }
}
