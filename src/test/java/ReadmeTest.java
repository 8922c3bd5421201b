import java.lang.reflect.Method;
import java.nio.file.Files;
import java.nio.file.Path;
import java.util.Set;
import java.util.TreeSet;
import java.util.regex.Matcher;
import java.util.regex.Pattern;

/** The examples of README.md, made as they stand there, from top to bottom on one object. */
public final class ReadmeTest {
    private static final Check check = new Check();
    private static final Pattern FEED = Pattern.compile("feed\\(x, \"([^\"]*)\"\\);");
    private static final Pattern CALL = Pattern.compile("x\\.(\\w+)\\(([^)]*)\\);\\s+// (CowLies\\.[A-Z]+|-?\\d+)(:.*)?");

    private static final Set<String> made = new TreeSet<>();
    private static CowLies x;

    public static void main(String[] args) throws Exception {
        boolean within = false;
        for (String line : Files.readAllLines(Path.of("README.md"))) {
            if (line.startsWith("```")) within = line.equals("```java");
            else if (within) make(line);
        }
        Set<String> all = new TreeSet<>();
        for (Method m : CowLies.class.getMethods()) {
            if (m.getDeclaringClass() == CowLies.class) all.add(m.getName());
        }
        check.dueText("the methods that README.md shows", made.toString(), all.toString());
        check.end();
    }

    private static void make(String line) throws Exception {
        Matcher feed = FEED.matcher(line), call = CALL.matcher(line);
        if (line.equals("CowLies x = new CowLies();")) x = new CowLies();
        else if (feed.matches()) Check.feed(x, feed.group(1));
        else if (call.matches()) ask(line, call.group(1), call.group(2), call.group(3));
        else check.dueText("a line that is no example", line, "");
    }

    private static void ask(String line, String name, String numbers, String answer) throws Exception {
        made.add(name);
        String[] told = numbers.isEmpty() ? new String[0] : numbers.split(", ");
        for (Method m : CowLies.class.getMethods()) {
            if (!m.getName().equals(name)) continue;
            Class<?>[] types = m.getParameterTypes();
            check.due("numbers in " + line, told.length, types.length);
            Object[] given = new Object[types.length];
            for (int i = 0; i < given.length; i++) {
                given[i] = types[i] == long.class ? (Object) Long.parseLong(told[i]) : (Object) Integer.parseInt(told[i]);
            }
            check.due(line, (Integer) m.invoke(x, given), number(answer));
        }
    }

    private static int number(String told) throws Exception {
        if (!told.startsWith("CowLies.")) return Integer.parseInt(told);
        return CowLies.class.getField(told.substring("CowLies.".length())).getInt(null);
    }
}
