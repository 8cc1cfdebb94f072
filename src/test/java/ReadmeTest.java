import java.lang.reflect.Method;
import java.lang.reflect.Modifier;
import java.nio.file.Files;
import java.nio.file.Path;
import java.util.HashMap;
import java.util.Map;
import java.util.TreeSet;
import java.util.regex.Matcher;
import java.util.regex.Pattern;

/** Makes the calls that README.md shows, one behind the other, and compares with the answers that it tells. */
public final class ReadmeTest {
    private static final Pattern BLOCK = Pattern.compile("(?s)```java\n(.*?)```");
    private static final Pattern CALL = Pattern.compile("x\\.(\\w+)\\((.*)\\);\\s+// (-?\\d+)\\b.*");
    private static final Pattern NEW = Pattern.compile("MendedOrNew x = new MendedOrNew\\(\\);");
    private static final Pattern TEXT = Pattern.compile("for \\(char c : \"(\\w+)\"\\.toCharArray\\(\\)\\) \\{ x\\.write\\(1, c\\); \\}");

    private static final Map<String, Method> FACE = new HashMap<>();
    private static final TreeSet<String> SHOWN = new TreeSet<>();
    private static MendedOrNew x;
    private static int asked;
    private static int wrong;

    private static void fail(String what) {
        wrong++;
        System.out.println("README.md: " + what);
    }

    private static Object[] values(Method call, String list) {
        String[] told = list.isEmpty() ? new String[0] : list.split(", ");
        Class<?>[] types = call.getParameterTypes();
        if (told.length != types.length) {
            return null;
        }
        Object[] values = new Object[told.length];
        for (int i = 0; i < told.length; i++) {
            values[i] = types[i] == boolean.class ? (Object) Boolean.valueOf(told[i])
                    : types[i] == long.class ? (Object) Long.valueOf(told[i].replace("L", ""))
                    : (Object) Integer.valueOf(told[i]);
        }
        return values;
    }

    private static void ask(String line, Matcher m) throws Exception {
        Method call = FACE.get(m.group(1));
        Object[] values = call == null ? null : values(call, m.group(2));
        if (values == null) {
            fail("no such call: " + line);
            return;
        }
        long got = ((Number) call.invoke(x, values)).longValue();
        asked++;
        SHOWN.add(m.group(1));
        if (got != Long.parseLong(m.group(3))) {
            fail("answered " + got + ": " + line);
        }
    }

    private static void follow(String line) throws Exception {
        Matcher call = CALL.matcher(line);
        Matcher text = TEXT.matcher(line);
        if (NEW.matcher(line).matches()) {
            x = new MendedOrNew();
        } else if (text.matches()) {
            for (char c : text.group(1).toCharArray()) {
                x.write(1, c);
            }
        } else if (call.matches()) {
            ask(line, call);
        } else {
            fail("not understood: " + line);
        }
    }

    public static void main(String[] args) throws Exception {
        Path program = Path.of(System.getProperty("program", "src/main/java/MendedOrNew.java")).toAbsolutePath();
        Path root = program.getParent().getParent().getParent().getParent();
        for (Method m : MendedOrNew.class.getDeclaredMethods()) {
            if (Modifier.isPublic(m.getModifiers())) {
                FACE.put(m.getName(), m);
            }
        }
        Matcher block = BLOCK.matcher(Files.readString(root.resolve("README.md")));
        while (block.find()) {
            for (String line : block.group(1).split("\n")) {
                follow(line.trim());
            }
        }
        FACE.keySet().removeAll(SHOWN);
        if (!FACE.isEmpty()) {
            fail("not shown: " + FACE.keySet());
        }
        System.out.println(wrong == 0 ? asked + " answers of README.md hold" : wrong + " lines of README.md do not hold");
        if (wrong != 0) {
            System.exit(1);
        }
    }
}
