import java.lang.reflect.Constructor;
import java.lang.reflect.Field;
import java.lang.reflect.Method;
import java.lang.reflect.Modifier;
import java.nio.file.Files;
import java.nio.file.Path;
import java.util.ArrayList;
import java.util.Arrays;
import java.util.HashSet;
import java.util.List;
import java.util.Set;
import java.util.TreeSet;
import java.util.regex.Matcher;
import java.util.regex.Pattern;

/** The rules of LANGUAGE.md that can be seen from the source or from the class. */
public final class LanguageTest {
    private static final Check check = new Check();
    private static final Path SOURCE = Path.of("src/main/java/CowLies.java");

    private static final String[] FACE = {
        "int feed(int,long)", "int meadow()", "int fault()", "int told(int)", "int cell(int,int,int)", "int tithes(int,int,int)",
        "int day(int)", "int law(int)", "int sow(int,int,int)", "int lead(int,int)", "int lick(int,int)", "int odds(int,int,int)",
        "int mean(int)", "int clover(int,int,int)", "int rests(int,int)", "int worth(int,int,int)", "int fairest(int)",
        "int watch(int)", "int see(int,int,int)", "int lay(int,int)", "int write(int,int,int)", "int tear()", "int judge()",
        "int seed(int)", "int keep(int)", "int goBack(int)"
    };

    public static void main(String[] args) throws Exception {
        String plain = withoutTextsAndComments(Files.readString(SOURCE));
        words(plain);
        face();
        sizes();
        methodLengths(plain);
        check.end();
    }

    private static String withoutTextsAndComments(String source) {
        return source.replaceAll("(?s)/\\*.*?\\*/", " ").replaceAll("//[^\n]*", " ")
            .replaceAll("\"[^\"\n]*\"", "\"\"").replaceAll("'[^'\n]'", "0");
    }

    private static void words(String plain) {
        String[] banned = {"throw", "throws", "try", "catch", "finally", "synchronized", "assert", "import", "package", "static\\s*\\{",
            "->", "::", "\"\"\\s*\\+", "\\+\\s*\"\"", "Exact", "System\\.", "Thread", "Random", "native", "volatile", "transient",
            "protected", "hashCode", "toString", "instanceof", "double", "float", "record", "enum", "interface", "goto"};
        for (String word : banned) {
            String pattern = word.matches("\\w+") ? "\\b" + word + "\\b" : word;
            check.holds("no " + word, !Pattern.compile(pattern).matcher(plain).find());
        }
        for (int i = 0; i < plain.length(); i++) {
            if (plain.charAt(i) > 126) check.due("a sign at " + i, plain.charAt(i), 0);
        }
    }

    private static String told(Method m) {
        StringBuilder s = new StringBuilder(m.getReturnType().getSimpleName()).append(' ').append(m.getName()).append('(');
        for (Class<?> type : m.getParameterTypes()) s.append(s.charAt(s.length() - 1) == '(' ? "" : ",").append(type.getSimpleName());
        return s.append(')').toString();
    }

    private static void face() {
        Class<?> c = CowLies.class;
        check.holds("public final", Modifier.isPublic(c.getModifiers()) && Modifier.isFinal(c.getModifiers()));
        Set<String> open = new TreeSet<>();
        Set<String> names = new HashSet<>();
        for (Method m : c.getDeclaredMethods()) {
            if (m.isSynthetic() || Modifier.isPrivate(m.getModifiers())) continue;
            open.add((Modifier.isPublic(m.getModifiers()) ? "" : "not public: ") + told(m));
            names.add(m.getName());
        }
        check.dueText("methods", open.toString(), new TreeSet<>(Arrays.asList(FACE)).toString());
        for (Class<?> inside : classes()) {
            for (Method m : inside.getDeclaredMethods()) {
                boolean own = inside == c && Modifier.isPublic(m.getModifiers());
                check.holds("no other method of the face's name: " + m, own || !names.contains(m.getName()));
            }
        }
        int constructors = 0;
        for (Constructor<?> k : c.getDeclaredConstructors()) {
            if (Modifier.isPublic(k.getModifiers()) && k.getParameterCount() == 0) constructors++;
            else check.holds("no other constructor: " + k, k.isSynthetic());
        }
        check.due("constructors", constructors, 1);
        List<String> constants = new ArrayList<>();
        for (Field f : c.getDeclaredFields()) {
            if (!Modifier.isPrivate(f.getModifiers())) constants.add(Modifier.toString(f.getModifiers()) + " " + f.getName());
        }
        check.dueText("constants", constants.toString(), "[public static final NONE, public static final UNKNOWN,"
            + " public static final OUTSIDE, public static final NOT, public static final FULL]");
    }

    private static List<Class<?>> classes() {
        List<Class<?>> all = new ArrayList<>(List.of(CowLies.class));
        for (int i = 0; i < all.size(); i++) all.addAll(Arrays.asList(all.get(i).getDeclaredClasses()));
        return all;
    }

    private static void sizes() {
        check.holds("at most twelve classes", classes().size() <= 12);
        for (Class<?> c : classes()) {
            check.holds("static within: " + c, c == CowLies.class || Modifier.isStatic(c.getModifiers()));
            int fields = 0;
            for (Field f : c.getDeclaredFields()) {
                if (Modifier.isStatic(f.getModifiers())) check.holds("final: " + f, Modifier.isFinal(f.getModifiers()));
                else fields++;
            }
            check.holds("at most twenty fields: " + c, fields <= 20);
            for (Method m : c.getDeclaredMethods()) check.holds("at most seven parameters: " + m, m.getParameterCount() <= 7);
        }
    }

    /** A method begins at a line that ends with ') {' at a depth of one or two classes. */
    private static void methodLengths(String plain) {
        String[] lines = plain.split("\n", -1);
        Matcher head = Pattern.compile("^( {4}| {8})(public|private|static|int|boolean|void|long|[A-Z]\\w*\\().*\\) \\{$").matcher("");
        for (int i = 0; i < lines.length; i++) {
            if (!head.reset(lines[i]).matches()) continue;
            String end = head.group(1) + "}";
            int length = 1;
            while (i + length < lines.length && !lines[i + length].equals(end)) length++;
            check.holds("at most 60 lines: " + lines[i].trim(), length < 60);
        }
    }
}
