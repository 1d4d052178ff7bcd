import java.lang.reflect.Field;
import java.lang.reflect.Method;
import java.lang.reflect.Modifier;
import java.nio.file.Files;
import java.nio.file.Path;
import java.util.Map;
import java.util.Set;
import java.util.TreeMap;
import java.util.TreeSet;
import java.util.regex.Matcher;
import java.util.regex.Pattern;

/** The face of the class, and those rules of LANGUAGE.md that a look at the file can tell. */
public final class LanguageTest {
    private static final Path FILE = Path.of("src/main/java/JumpLengths.java");
    private static final int LINES_MOST = 60, PARAMETERS_MOST = 7, CLASSES_MOST = 12, FIELDS_MOST = 20;
    private static int wrong = 0;

    private static void due(String what, Object got, Object want) {
        if (got.equals(want)) return;
        wrong++;
        System.out.println(what + " is " + got + ", due is " + want);
    }

    private static void face() throws Exception {
        Class<?> type = JumpLengths.class;
        due("final", Modifier.isFinal(type.getModifiers()), true);
        due("constructors", type.getDeclaredConstructors().length, 1);
        due("a public constructor without arguments", type.getConstructor().getParameterCount(), 0);
        Map<String, Integer> methods = new TreeMap<>();
        Set<String> hidden = new TreeSet<>();
        for (Method method : type.getDeclaredMethods()) {
            if (Modifier.isPrivate(method.getModifiers())) hidden.add(method.getName());
            else methods.put(method.getName(), method.getParameterCount());
            for (Class<?> parameter : method.getParameterTypes()) {
                if (methods.containsKey(method.getName())) due("a parameter of " + method, parameter, int.class);
            }
        }
        due("the methods", methods, new TreeMap<>(Map.ofEntries(
                Map.entry("type", 1), Map.entry("clear", 0), Map.entry("source", 0), Map.entry("item", 2),
                Map.entry("sizes", 2), Map.entry("pins", 1), Map.entry("places", 2), Map.entry("takes", 2),
                Map.entry("undo", 0), Map.entry("way", 2), Map.entry("lies", 3), Map.entry("code", 2),
                Map.entry("origin", 2), Map.entry("narrow", 0), Map.entry("fewest", 1), Map.entry("odds", 3),
                Map.entry("keep", 1), Map.entry("back", 1), Map.entry("count", 1))));
        hidden.retainAll(methods.keySet());
        due("private methods with a public name", hidden, Set.of());
        Map<String, Object> constants = new TreeMap<>();
        for (Field field : type.getDeclaredFields()) {
            if (!Modifier.isPrivate(field.getModifiers())) constants.put(field.getName(), field.get(null));
        }
        due("the constants", constants, new TreeMap<>(Map.of("BAD", -1, "STATE", -2, "FULL", -3, "NONE", -9, "NO", -1000000)));
    }

    private static void classesInside() {
        due("at most " + CLASSES_MOST + " classes", JumpLengths.class.getDeclaredClasses().length < CLASSES_MOST, true);
        for (Class<?> inside : JumpLengths.class.getDeclaredClasses()) {
            int modifiers = inside.getModifiers();
            due(inside + " is static", Modifier.isStatic(modifiers), true);
            due(inside + " is hidden", Modifier.isPublic(modifiers) || Modifier.isProtected(modifiers), false);
            int fields = 0;
            for (Field field : inside.getDeclaredFields()) {
                if (!Modifier.isStatic(field.getModifiers())) fields++;
                else due(field + " is final", Modifier.isFinal(field.getModifiers()), true);
            }
            due(inside + " has few fields", fields <= FIELDS_MOST, true);
        }
    }

    private static void words(String code) {
        String never = "\\b(import|package|throw|throws|try|catch|finally|synchronized|assert|protected|native|volatile|float|double)\\b|->|::";
        Matcher matcher = Pattern.compile(never).matcher(code);
        while (matcher.find()) due("a word of the file", matcher.group(), "none such");
        Set<String> library = new TreeSet<>();
        matcher = Pattern.compile("\\b(System|Math|Integer|Long|Arrays|String|StringBuilder|List|ArrayList|Object|Thread)\\b(\\.\\w+)?").matcher(code);
        while (matcher.find()) library.add(matcher.group());
        library.removeAll(Set.of("System.arraycopy", "Math.min", "Integer.bitCount"));
        due("other uses of the library", library, Set.of());
    }

    private static void methods(String code) {
        String head = "(?m)^ +(?:(?:public|private|static|final) )*(?:int|boolean|void|Layout|Image)? ?(\\w+)\\(([^)]*)\\) \\{$";
        Matcher matcher = Pattern.compile(head).matcher(code);
        int found = 0;
        while (matcher.find()) {
            if (Set.of("if", "for", "while", "switch").contains(matcher.group(1))) continue;
            found++;
            int depth = 0, end = matcher.end() - 1;
            do {
                if (code.charAt(end) == '{') depth++;
                if (code.charAt(end) == '}') depth--;
                end++;
            } while (depth > 0);
            String method = code.substring(matcher.start(), end);
            long lines = method.chars().filter(c -> c == '\n').count() + 1;
            due(matcher.group(1) + " is short", lines <= LINES_MOST, true);
            due(matcher.group(1) + " has few parameters", matcher.group(2).split(",").length <= PARAMETERS_MOST, true);
            boolean isConstructor = Character.isUpperCase(matcher.group(1).charAt(0));
            due(matcher.group(1) + " makes objects", !isConstructor && method.matches("(?s).*\\bnew\\b.*"), false);
        }
        due("methods were found", found > 60, true);
    }

    public static void main(String[] args) throws Exception {
        String file = Files.readString(FILE);
        String code = file.replaceAll("(?s)/\\*.*?\\*/", "").replaceAll("//[^\n]*", "");
        face();
        classesInside();
        words(code);
        methods(code);
        System.out.println(wrong == 0 ? "the language is kept" : wrong + " rules are broken");
        if (wrong != 0) System.exit(1);
    }
}
