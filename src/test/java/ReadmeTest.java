import java.lang.reflect.Method;
import java.nio.file.Files;
import java.nio.file.Path;
import java.util.HashSet;
import java.util.List;
import java.util.Set;
import java.util.regex.Matcher;
import java.util.regex.Pattern;

/**
 * Makes the calls that README.md shows and looks whether they answer what stands beside them. A line of its Java that is
 * neither a new object nor a call with its answer counts as wrong, so that none can stand there untested.
 */
public final class ReadmeTest {
    private static final Pattern CALL = Pattern.compile("x\\.(\\w+)\\(([^()]*)\\); +// (-?\\d+|true|false|BAD|FULL|STATE)(: .+)?");
    private static final String NEW = "BitCongruences x = new BitCongruences();";
    private static final int MOST_CALLS = 512;
    private static final Set<String> called = new HashSet<>();
    private static int wrong = 0, answers = 0, calls = 0;
    private static BitCongruences x = null;

    private static void fault(int line, String what) {
        wrong++;
        System.out.println("README.md, line " + line + ": " + what);
    }

    private static Method named(String name) {
        for (Method m : BitCongruences.class.getMethods()) {
            if (m.getDeclaringClass() == BitCongruences.class && m.getName().equals(name)) return m;
        }
        return null;
    }

    private static Object[] arguments(Method method, String text) {
        String[] words = text.isEmpty() ? new String[0] : text.split(", ");
        Class<?>[] types = method.getParameterTypes();
        if (words.length != types.length) return null;
        Object[] values = new Object[words.length];
        for (int i = 0; i < words.length; i++) {
            if (types[i] == int.class) values[i] = Integer.valueOf(words[i]);
            else values[i] = Long.valueOf(words[i]);
        }
        return values;
    }

    private static String due(String answer) {
        switch (answer) {
            case "BAD": return String.valueOf(BitCongruences.BAD);
            case "FULL": return String.valueOf(BitCongruences.FULL);
            case "STATE": return String.valueOf(BitCongruences.STATE);
            default: return answer;
        }
    }

    private static void call(int line, Matcher told) throws Exception {
        Method method = named(told.group(1));
        Object[] values = method == null ? null : arguments(method, told.group(2));
        if (values == null || x == null) {
            fault(line, "there is no such call: " + told.group());
            return;
        }
        called.add(told.group(1));
        answers++;
        calls++;
        if (calls > MOST_CALLS) fault(line, "this is call " + calls + " of one object");
        String got = String.valueOf(method.invoke(x, values));
        if (!got.equals(due(told.group(3)))) fault(line, told.group(1) + "(" + told.group(2) + ") answered " + got + ", told is " + told.group(3));
    }

    private static void read(int line, String text) throws Exception {
        Matcher told = CALL.matcher(text);
        if (text.equals(NEW)) {
            x = new BitCongruences();
            calls = 0;
        } else if (told.matches()) {
            call(line, told);
        } else {
            fault(line, "no call with its answer: " + text);
        }
    }

    public static void main(String[] args) throws Exception {
        List<String> lines = Files.readAllLines(Path.of(args.length > 0 ? args[0] : "README.md"));
        boolean inside = false;
        for (int i = 0; i < lines.size(); i++) {
            String text = lines.get(i);
            if (text.startsWith("```")) {
                inside = text.equals("```java");
                x = null;
            } else if (inside) {
                read(i + 1, text);
            }
        }
        for (Method m : BitCongruences.class.getMethods()) {
            if (m.getDeclaringClass() == BitCongruences.class && !called.contains(m.getName())) fault(lines.size(), m.getName() + " is not shown");
        }
        System.out.println(answers + " answers of README.md, " + wrong + " are not as due");
        if (wrong != 0) System.exit(1);
    }
}
