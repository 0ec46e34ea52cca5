import java.lang.reflect.Constructor;
import java.lang.reflect.Field;
import java.lang.reflect.Method;
import java.lang.reflect.Modifier;
import java.nio.file.Files;
import java.nio.file.Path;
import java.util.ArrayList;
import java.util.List;
import java.util.Set;
import java.util.TreeSet;
import java.util.regex.Matcher;
import java.util.regex.Pattern;

/** What of LANGUAGE.md and of the document's face can be seen from the source and the compiled class. */
public final class LanguageTest {
    private static int wrong = 0;

    private static void check(boolean right, String what) {
        if (!right) {
            wrong++;
            System.out.println("not as told: " + what);
        }
    }

    private static void words(String code) {
        for (String word : new String[] {"throw", "throws", "try", "catch", "finally", "synchronized", "assert", "import", "package",
            "protected", "double", "float", "System", "Object", "volatile", "native"}) {
            check(!Pattern.compile("\\b" + word + "\\b").matcher(code).find(), "the word " + word + " stands in the program");
        }
        check(!code.contains("->") && !code.contains("::"), "lambdas and method references");
        check(!code.contains("Exact("), "functions that end in Exact");
        check(!Pattern.compile("static\\s*\\{").matcher(code).find(), "a static initialiser");
        Set<String> allowed = Set.of("Math.min", "Math.max", "Math.abs", "Long.bitCount");
        Matcher calls = Pattern.compile("\\b(Math|Long|Integer|String|Arrays)\\.\\w+").matcher(code);
        while (calls.find()) check(allowed.contains(calls.group()), calls.group() + " stands in the program");
    }

    private static void face() {
        Set<String> want = new TreeSet<>(List.of("int fact(int,long,long)", "int bits(int,long,long)", "int rest(int,int,long)",
            "int act(int,int,int,int)", "long told(int,int)", "boolean isOf(int,long)", "int method()", "int op(int,int,int,int)",
            "int table(int,long)", "int given(int,int,int)", "int find(int)", "int found(int,int,int,int)", "int sum(int,int)",
            "long put(int,long)", "int walk(int,int)", "long now(int)", "int ran(int)"));
        Set<String> names = new TreeSet<>();
        for (String w : want) names.add(w.substring(w.indexOf(' ') + 1, w.indexOf('(')));
        Set<String> got = new TreeSet<>();
        for (Method m : BitCongruences.class.getDeclaredMethods()) {
            if (Modifier.isPrivate(m.getModifiers())) {
                check(!names.contains(m.getName()), "a private method bears the name " + m.getName());
                continue;
            }
            check(Modifier.isPublic(m.getModifiers()) && !Modifier.isStatic(m.getModifiers()), m.toString());
            List<String> types = new ArrayList<>();
            for (Class<?> c : m.getParameterTypes()) types.add(c.getName());
            got.add(m.getReturnType().getName() + " " + m.getName() + "(" + String.join(",", types) + ")");
        }
        check(got.equals(want), "the face is " + got);
        Constructor<?>[] constructors = BitCongruences.class.getDeclaredConstructors();
        check(constructors.length == 1 && constructors[0].getParameterCount() == 0
            && Modifier.isPublic(constructors[0].getModifiers()), "the constructors");
        check(Modifier.isFinal(BitCongruences.class.getModifiers()) && Modifier.isPublic(BitCongruences.class.getModifiers()), "the class");
        Set<String> constants = new TreeSet<>();
        for (Field f : BitCongruences.class.getDeclaredFields()) if (!Modifier.isPrivate(f.getModifiers())) constants.add(f.getName());
        check(constants.equals(Set.of("BAD", "FULL", "STATE")), "the constants are " + constants);
        for (Class<?> inside : BitCongruences.class.getDeclaredClasses()) {
            check(Modifier.isStatic(inside.getModifiers()), inside + " is not static");
            int fields = 0;
            for (Field f : inside.getDeclaredFields()) {
                check(!Modifier.isStatic(f.getModifiers()) || Modifier.isFinal(f.getModifiers()), f.toString());
                fields += Modifier.isStatic(f.getModifiers()) ? 0 : 1;
            }
            check(fields <= 20, inside + " has " + fields + " fields");
            for (Method m : inside.getDeclaredMethods()) check(m.getParameterCount() <= 7 && !names.contains(m.getName()), m.toString());
        }
        check(BitCongruences.class.getDeclaredClasses().length <= 12, "the number of classes");
    }

    private static void lengths(List<String> lines) {
        for (int i = 0; i < lines.size(); i++) {
            String line = lines.get(i);
            String indent = line.substring(0, line.length() - line.stripLeading().length());
            if (!line.endsWith(") {") || indent.length() > 8 || line.strip().matches("(if|for|while|switch|\\}).*")) continue;
            int end = i;
            while (!lines.get(end).equals(indent + "}")) end++;
            check(end - i < 60, "length of " + line.strip());
        }
    }

    public static void main(String[] args) throws Exception {
        Path source = Path.of("src/main/java/BitCongruences.java");
        String text = Files.readString(source);
        words(text.replaceAll("(?s)/\\*.*?\\*/", " ").replaceAll("//.*", " "));
        lengths(Files.readAllLines(source));
        face();
        System.out.println(wrong == 0 ? "the program keeps to its rules" : wrong + " rules are broken");
        if (wrong != 0) System.exit(1);
    }
}
