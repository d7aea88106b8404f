import java.io.IOException;
import java.lang.reflect.Field;
import java.lang.reflect.Method;
import java.lang.reflect.Modifier;
import java.nio.file.Files;
import java.nio.file.Path;
import java.util.ArrayList;
import java.util.Arrays;
import java.util.List;
import java.util.Set;
import java.util.regex.Matcher;
import java.util.regex.Pattern;

/** Those rules of LANGUAGE.md that a look at the file, or at what it is compiled to, can tell. */
public final class LanguageTest {
    private static final Set<String> LIBRARY = Set.of("Math.max", "Math.min", "Math.abs", "Math.floorDiv", "Math.floorMod", "Integer.bitCount",
        "Integer.compare", "System.arraycopy", "Arrays.fill", "Arrays.copyOf", "Arrays.copyOfRange", "List.of");
    private static final Set<String> THROWN = Set.of("IllegalStateException", "IllegalArgumentException", "IndexOutOfBoundsException",
        "ArithmeticException", "UnsupportedOperationException", "NoSuchElementException", "RuntimeException");
    /** Those of them that the machine itself never throws. */
    private static final Set<String> CAUGHT = Set.of("IllegalStateException", "IllegalArgumentException", "UnsupportedOperationException", "NoSuchElementException");
    private static int wrong = 0;

    public static void main(String[] args) throws IOException {
        String source = Files.readString(Path.of("src/main/java/BreatheOut.java"));
        String code = bare(source);
        words(code);
        exceptions(code);
        library(code);
        objects(code);
        methodsAreShort(code);
        classes();
        System.out.println(wrong == 0 ? "the rules that can be looked at are kept" : wrong + " faults");
        if (wrong != 0) System.exit(1);
    }

    private static void fault(int rule, String what) {
        wrong++;
        System.out.println("rule " + rule + ": " + what);
    }

    /** The file without its comments, its texts and signs emptied. */
    private static String bare(String source) {
        String s = source.replaceAll("(?s)/\\*.*?\\*/", "").replaceAll("//[^\n]*", "");
        return s.replaceAll("\"(\\\\.|[^\"\\\\])*\"", "\"\"").replaceAll("'(\\\\.|[^'\\\\])'", "' '");
    }

    private static void none(int rule, String code, String pattern) {
        Matcher m = Pattern.compile(pattern).matcher(code);
        while (m.find()) fault(rule, m.group());
    }

    private static void words(String code) {
        none(1, code, "\\bpackage\\b");
        none(2, code, "->|::");
        none(3, code, "\\b(Object|Long|Map|Set|HashMap|Iterable<[^I])");
        none(5, code, "static\\s*\\{");
        none(6, code, "\\b(synchronized|assert|finally|getMessage)\\b|try\\s*\\(|\\bthrow (?!new )");
        none(6, code, "\\.(equals|hashCode|toString)\\(");
        none(10, code, "\"\"\\s*\\+|\\+\\s*\"\"");
        none(13, code, "\\b(Random|Thread|File|currentTimeMillis|nanoTime|getenv)\\b");
    }

    private static void exceptions(String code) {
        Matcher thrown = Pattern.compile("throw new (\\w+)").matcher(code);
        while (thrown.find()) if (!THROWN.contains(thrown.group(1))) fault(6, "thrown: " + thrown.group(1));
        Matcher caught = Pattern.compile("catch \\(([^)]*) \\w+\\)").matcher(code);
        while (caught.find()) for (String one : caught.group(1).split("\\s*\\|\\s*")) if (!CAUGHT.contains(one)) fault(6, "caught: " + one);
        for (String method : methods(code)) {
            if (method.contains("throw new") && method.contains("catch (")) fault(6, "thrown and caught in one: " + method.lines().findFirst().orElse(""));
        }
    }

    private static void library(String code) {
        Matcher imports = Pattern.compile("import ([\\w.*]+);").matcher(code);
        while (imports.find()) {
            if (!Set.of("java.util.Arrays", "java.util.ArrayList", "java.util.List", "java.util.Iterator", "java.util.NoSuchElementException").contains(imports.group(1))) {
                fault(4, imports.group());
            }
        }
        Matcher calls = Pattern.compile("\\b(Math|Integer|Long|System|Arrays|List|String|Character)\\.\\w+").matcher(code);
        while (calls.find()) if (!LIBRARY.contains(calls.group())) fault(4, calls.group());
    }

    /** The room of a run: objects are made where fields are, and in constructors, but for what is thrown. */
    private static void objects(String code) {
        String constructor = "public BreatheOut()";
        for (String method : methods(code)) {
            Matcher made = Pattern.compile("(?<!throw )\\bnew \\w+").matcher(method);
            while (made.find()) if (!method.contains(constructor)) fault(12, made.group() + " in a method");
        }
    }

    /** Each method from its head to the brace that closes it, by how far it stands in. */
    private static List<String> methods(String code) {
        List<String> found = new ArrayList<>();
        Matcher m = Pattern.compile("(?m)^( +)(?:(?:public|private|static|final|int|long|boolean|void|Leg)\\S* )*(?:\\w+ )?\\w+\\([^;{]*\\)[^;{]*\\{\\n(?:.*\\n)*?\\1\\}\\n").matcher(code);
        while (m.find()) found.add(m.group());
        return found;
    }

    private static void methodsAreShort(String code) {
        List<String> methods = methods(code);
        if (methods.size() < 80) fault(0, "only " + methods.size() + " methods are seen");
        for (String method : methods) {
            long lines = method.lines().count();
            if (lines > 60) fault(11, lines + " lines: " + method.lines().findFirst().orElse(""));
        }
    }

    private static void classes() {
        List<Class<?>> all = new ArrayList<>(Arrays.asList(BreatheOut.class.getDeclaredClasses()));
        all.add(BreatheOut.class);
        if (all.size() > 12) fault(11, all.size() + " classes");
        for (Class<?> c : all) {
            int fields = 0;
            for (Field f : c.getDeclaredFields()) {
                if (!Modifier.isStatic(f.getModifiers())) fields++;
                else if (!Modifier.isFinal(f.getModifiers())) fault(5, "not final: " + f);
            }
            if (fields > 20) fault(11, fields + " fields in " + c);
            for (Method m : c.getDeclaredMethods()) {
                if (m.getParameterCount() > 7) fault(11, "parameters: " + m);
                if (m.isSynthetic()) fault(2, "made by the compiler: " + m);
            }
        }
    }
}
