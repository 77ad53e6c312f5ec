import java.lang.reflect.Method;
import java.lang.reflect.Modifier;
import java.nio.ByteBuffer;
import java.nio.charset.StandardCharsets;
import java.nio.file.Files;
import java.nio.file.Path;
import java.util.regex.Matcher;
import java.util.regex.Pattern;

/** README.md's example: each call there gives the answer that stands behind it. */
public final class ReadmeTest {
    private static final Pattern CALL =
            Pattern.compile("x\\.(\\w+)\\((.*)\\); *// (true|false|-?\\d+)(?:: (.*))?");

    public static void main(String[] args) throws Exception {
        String told = System.getenv("LOST_SEVENS_README");
        String readme = Files.readString(Path.of(told == null ? "README.md" : told));
        int begin = readme.indexOf("```java\n");
        int end = readme.indexOf("\n```", begin + 1);
        Due.due("an example", begin >= 0 && end > begin, true);
        LostSevens x = new LostSevens();
        int calls = 0;
        for (String line : readme.substring(begin, end).lines().skip(2).toList()) {
            Matcher call = CALL.matcher(line);
            Due.due(line, call.matches(), true);
            answer(x, call);
            calls++;
        }
        Due.due("calls", calls > 10, true);
        allAreNamed(readme.substring(end));
        Due.close();
    }

    private static void answer(LostSevens x, Matcher call) throws Exception {
        String[] told = call.group(2).isEmpty() ? new String[0] : call.group(2).split(", ");
        Object[] values = new Object[told.length];
        for (int i = 0; i < told.length; i++) {
            values[i] = told[i].equals("LostSevens.NONE") ? LostSevens.NONE : Integer.decode(told[i]);
        }
        Due.due(call.group(), String.valueOf(method(call.group(1)).invoke(x, values)), call.group(3));
        if (call.group(1).equals("feed")) {
            fed(values, call.group(4));
        }
    }

    /** The text that stands behind a feed is what its bytes begin with. */
    private static void fed(Object[] values, String told) {
        ByteBuffer bytes = ByteBuffer.allocate(20);
        for (Object value : values) {
            bytes.putInt((Integer) value);
        }
        String text = new String(bytes.array(), StandardCharsets.ISO_8859_1);
        Due.due(told, told != null && ("\"" + text).startsWith(told.replaceFirst("\"$", "")), true);
    }

    private static Method method(String name) {
        for (Method method : LostSevens.class.getDeclaredMethods()) {
            if (method.getName().equals(name)) {
                return method;
            }
        }
        throw new IllegalStateException("no method " + name);
    }

    private static void allAreNamed(String table) {
        for (Method method : LostSevens.class.getDeclaredMethods()) {
            if (Modifier.isPublic(method.getModifiers())) {
                Due.due(method.getName(), table.contains("`" + method.getName() + "`"), true);
            }
        }
    }
}
