import java.io.IOException;
import java.lang.reflect.Array;
import java.lang.reflect.Field;
import java.lang.reflect.InvocationTargetException;
import java.lang.reflect.Method;
import java.lang.reflect.Modifier;
import java.nio.file.Files;
import java.nio.file.Path;
import java.util.ArrayList;
import java.util.Arrays;
import java.util.HashMap;
import java.util.List;
import java.util.Map;
import java.util.Random;
import java.util.Set;
import java.util.TreeSet;
import java.util.regex.Matcher;
import java.util.regex.Pattern;

/** The class's face, and those rules of LANGUAGE.md that can be read off the source, the class or its calls. */
public final class LanguageTests {
    private static final List<String> FACE = List.of(
            "int feed(int,int,int,int,int)", "boolean end(int)", "int form(int,int,int)", "int fault(int)",
            "int solid(int,int,int)", "int free(int,int,int)", "int shut()", "int draw()", "int way(int)",
            "int pieceAt(int,int,int)", "int piece(int,int)", "boolean wear(int,int)", "int pour(int)", "int mend(int)",
            "int run(int)", "int dry(int)", "int order(int,int,int)", "boolean cancel(int)", "int row()", "int next(int)",
            "int late(int)", "boolean cast(int,int,int)", "boolean copies(int,int,int)", "int mother(int)",
            "int steps(int)", "int told(int)");
    private static final int MOST_DEPTH = 8;

    private static int wrong = 0;

    private LanguageTests() {
    }

    private static void must(String rule, boolean holds) {
        if (!holds) {
            wrong++;
            System.out.println("broken: " + rule);
        }
    }

    private static String signature(Method method) {
        List<String> types = new ArrayList<>();
        for (Class<?> type : method.getParameterTypes()) {
            types.add(type.getSimpleName());
        }
        return method.getReturnType().getSimpleName() + " " + method.getName() + "(" + String.join(",", types) + ")";
    }

    private static Set<String> faceNames() {
        Set<String> names = new TreeSet<>();
        for (String method : FACE) {
            names.add(method.substring(method.indexOf(' ') + 1, method.indexOf('(')));
        }
        return names;
    }

    private static void face() {
        Set<String> open = new TreeSet<>();
        for (Method method : CastWorks.class.getDeclaredMethods()) {
            boolean isPrivate = Modifier.isPrivate(method.getModifiers());
            must("rule 1: " + method + " bears no name of the face", !isPrivate || !faceNames().contains(method.getName()));
            if (!isPrivate) {
                open.add(signature(method));
                must(method + " is public and not static", method.getModifiers() == Modifier.PUBLIC);
            }
        }
        must("rule 1: the face is the document's: " + open, open.equals(new TreeSet<>(FACE)));
        must("rule 1: public and final", CastWorks.class.getModifiers() == (Modifier.PUBLIC | Modifier.FINAL));
        must("rule 1: nothing above it", CastWorks.class.getSuperclass() == Object.class
                && CastWorks.class.getInterfaces().length == 0 && CastWorks.class.getPackageName().isEmpty());
        must("rule 1: one constructor", CastWorks.class.getConstructors().length == 1
                && CastWorks.class.getDeclaredConstructors().length == 1
                && CastWorks.class.getConstructors()[0].getParameterCount() == 0);
        for (Field field : CastWorks.class.getDeclaredFields()) {
            must("rule 1: " + field + " is private, but for NONE",
                    field.getName().equals("NONE") != Modifier.isPrivate(field.getModifiers()));
        }
    }

    private static void constants() throws ReflectiveOperationException {
        Field none = CastWorks.class.getDeclaredField("NONE");
        must("NONE is a public constant", none.getModifiers() == (Modifier.PUBLIC | Modifier.STATIC | Modifier.FINAL));
        must("NONE is an int, and -1", none.getType() == int.class && none.getInt(null) == -1);
    }

    /** What the interface says ahead of calls stands in the source as comments. */
    private static void parts(String source) {
        String[][] partAndFirstCall = {{"pours", "boolean wear"}, {"orders", "int dry"}, {"casts", "boolean cast"}};
        for (String[] part : partAndFirstCall) {
            must("it says ---- " + part[0] + " ahead of " + part[1],
                    source.contains("    // ---- " + part[0] + "\n\n    public " + part[1] + "("));
        }
    }

    private static void classesInside() {
        Class<?>[] inside = CastWorks.class.getDeclaredClasses();
        must("rule 11: at most twelve classes", inside.length <= 11);
        must("rule 2: no local or anonymous class", CastWorks.class.getNestMembers().length == inside.length + 1);
        fieldsOf(CastWorks.class);
        for (Class<?> one : inside) {
            must("rule 2: " + one + " is static", Modifier.isStatic(one.getModifiers()));
            must("rule 1: " + one + " is private or package-visible",
                    !Modifier.isPublic(one.getModifiers()) && !Modifier.isProtected(one.getModifiers()));
            must("rule 2: " + one + " has none inside", one.getDeclaredClasses().length == 0);
            fieldsOf(one);
            for (Method method : one.getDeclaredMethods()) {
                must("rule 1: " + method + " bears no name of the face", !faceNames().contains(method.getName()));
                must("rule 11: " + method + " takes at most seven", method.getParameterCount() <= 7);
            }
        }
    }

    private static void fieldsOf(Class<?> one) {
        int fields = 0;
        for (Field field : one.getDeclaredFields()) {
            boolean constant = Modifier.isStatic(field.getModifiers());
            fields += constant ? 0 : 1;
            must("rule 5: " + field + " is final", !constant || Modifier.isFinal(field.getModifiers()));
            must("rule 5: " + field + " is a number", !constant || field.getType() == int.class);
        }
        must("rule 11: " + one + " has at most twenty fields", fields <= 20);
    }

    private static String codeOf(String source) {
        return source.replaceAll("(?s)/\\*.*?\\*/", "").replaceAll("//[^\\n]*", "").replaceAll("\"[^\"\\n]*\"", "\"\"");
    }

    private static void words(String code) {
        for (String word : List.of("throw", "throws", "try", "catch", "synchronized", "assert", "package", "double", "float",
                "System\\.out", "System\\.exit", "Random", "Thread", "hashCode", "toString", "Exact", "native", "volatile",
                "instanceof", "equals", "var", "yield", "record", "enum", "interface", "extends", "implements")) {
            must("rules 2 to 6: no " + word, !Pattern.compile("\\b" + word + "\\b").matcher(code).find());
        }
        must("rule 2: no lambda, no method reference", !code.contains("->") && !code.contains("::"));
        must("rule 5: no static block", !Pattern.compile("static\\s*\\{").matcher(code).find());
        must("rule 9: loops have conditions",
                !Pattern.compile("while\\s*\\(\\s*true|for\\s*\\([^;]*;\\s*;").matcher(code).find());
        Matcher imports = Pattern.compile("(?m)^import (.*);").matcher(code);
        while (imports.find()) {
            must("rule 4: no import of " + imports.group(1), imports.group(1).equals("java.util.Arrays"));
        }
        Matcher library = Pattern.compile("\\b(Arrays|System|Math|Integer|Long)\\.(\\w+)").matcher(code);
        Set<String> allowed = Set.of("Arrays.fill", "System.arraycopy", "Math.min", "Math.max", "Math.abs",
                "Integer.bitCount");
        while (library.find()) {
            must("rule 4: " + library.group(), allowed.contains(library.group()));
        }
        must("rule 4: fill is for numbers alone", !code.contains("boolean[]"));
        must("rule 3: rows of one dimension", !code.contains("[][]"));
        Matcher divisions = Pattern.compile("[/%]=?\\s*([\\w.]+)").matcher(code);
        while (divisions.find()) {
            must("rule 7: a divisor that is not 0: " + divisions.group(1),
                    Set.of("1000", "Cells.SIDE", "Cells.PLANE", "borne").contains(divisions.group(1)));
        }
    }

    private static void madeThings(String code) {
        Matcher made = Pattern.compile("\\bnew\\b").matcher(code);
        while (made.find()) {
            String line = code.substring(code.lastIndexOf('\n', made.start()) + 1, code.indexOf('\n', made.start()));
            must("rule 12: made in a constructor alone: " + line,
                    line.contains("private final") || line.contains("this.parting ="));
        }
    }

    /** The room of all calls of a run is 7.3 million, so some hundreds of objects must go into it. */
    private static void room() throws IllegalAccessException {
        List<Object> seen = new ArrayList<>();
        seen.add(new CastWorks());
        long elements = 0;
        for (int i = 0; i < seen.size(); i++) {
            Object one = seen.get(i);
            if (one.getClass().isArray()) {
                elements += Array.getLength(one);
                continue;
            }
            for (Field field : one.getClass().getDeclaredFields()) {
                field.setAccessible(true);
                if (!Modifier.isStatic(field.getModifiers())) {
                    elements++;
                    Object value = field.getType().isPrimitive() ? one : field.get(one);
                    must("rule 7: " + field + " is never null", value != null);
                    if (value != null && seen.stream().noneMatch(other -> other == value)) {
                        seen.add(value);
                    }
                }
            }
        }
        must("rule 12: at most 60 objects and arrays, not " + seen.size(), seen.size() <= 60);
        must("rule 12: at most 14,000 fields and elements, not " + elements, elements <= 14_000);
    }

    private static void lengths(String source) {
        String[] lines = source.split("\n");
        int start = -1;
        for (int i = 0; i < lines.length; i++) {
            must("a line of at most 120 characters: " + (i + 1), lines[i].length() <= 120);
            if (lines[i].matches("( {4}| {8})(private |public |static )*\\w[\\w\\[\\]]* \\w+\\(.*\\) \\{")) {
                start = i;
            } else if (lines[i].matches("( {4}| {8})\\}") && start >= 0) {
                must("rule 11: a method of at most sixty lines: " + (start + 1), i - start < 60);
                start = -1;
            }
        }
    }

    /** By names alone, so methods of one name count as one: the true depth is never greater. */
    private static void depths(String code) {
        Map<String, Set<String>> calls = new HashMap<>();
        Matcher methods = Pattern.compile("(?ms)^( {4}| {8})(?:(?:private|public|static) )*[\\w\\[\\]]+ (\\w+)\\([^)]*\\) \\{\n"
                + "(.*?)^\\1\\}").matcher(code);
        while (methods.find()) {
            Set<String> called = calls.computeIfAbsent(methods.group(2), name -> new TreeSet<>());
            Matcher names = Pattern.compile("\\b(\\w+)\\(").matcher(methods.group(3));
            while (names.find()) {
                called.add(names.group(1));
            }
        }
        must("the calls of all methods are looked at", calls.keySet().containsAll(faceNames()));
        for (String name : calls.keySet()) {
            must("rules 8 and 11: " + name + " goes at most " + MOST_DEPTH + " deep", depth(calls, name, 1) <= MOST_DEPTH);
        }
    }

    private static int depth(Map<String, Set<String>> calls, String name, int level) {
        int most = level;
        for (String called : calls.get(name)) {
            if (calls.containsKey(called) && level <= MOST_DEPTH) {
                most = Math.max(most, depth(calls, called, level + 1));
            }
        }
        return most;
    }

    /** Rule 7 holds in any state, so the calls go on far behind the 512th. */
    private static void wildCalls() throws IllegalAccessException {
        int[] wild = {Integer.MIN_VALUE, Integer.MIN_VALUE + 1, -1001, -2, -1, 0, 1, 2, 3, 4, 5, 6, 7, 8, 9, 10, 11, 12, 20, 50,
            100, 399, 400, 401, 900, 1000, 1001, 100_000, 100_001, 0x626F7820, 0x3B202020, Integer.MAX_VALUE};
        String[] texts = {"", "box 0 0 0 9 9 9;", "box 0 0 0 5 5 5;hole 2 2 0 1 1 2;", "box 1 1 1 2 2 2;mirror x;turn;", "bo"};
        Random random = new Random(7);
        CastWorks x = new CastWorks();
        for (int i = 0; i < 200_000; i++) {
            Method method = METHODS[random.nextInt(METHODS.length)];
            Object[] args = new Object[method.getParameterCount()];
            for (int a = 0; a < args.length; a++) {
                args[a] = random.nextInt(9) == 0 ? random.nextInt() : wild[random.nextInt(wild.length)];
            }
            try {
                method.invoke(x, args);
                if (i % 50 == 0) {
                    layForm(x, texts[random.nextInt(texts.length)], 1 + random.nextInt(8));
                }
            } catch (InvocationTargetException thrown) {
                must("rule 7: " + method.getName() + Arrays.toString(args) + " throws " + thrown.getCause(), false);
            }
        }
    }

    private static final Method[] METHODS = CastWorks.class.getDeclaredMethods();

    private static void layForm(CastWorks x, String text, int side) {
        x.end(0);
        for (int from = 0; from < text.length(); from += 20) {
            int[] numbers = new int[5];
            for (int i = 0; i < 20; i++) {
                numbers[i / 4] = numbers[i / 4] << 8 | (from + i < text.length() ? text.charAt(from + i) : ' ');
            }
            x.feed(numbers[0], numbers[1], numbers[2], numbers[3], numbers[4]);
        }
        x.form(side, side, side);
        x.draw();
    }

    public static void main(String[] args) throws IOException, ReflectiveOperationException {
        String source = Files.readString(Path.of("src/main/java/CastWorks.java"));
        String code = codeOf(source);
        face();
        constants();
        parts(source);
        classesInside();
        words(code);
        madeThings(code);
        room();
        lengths(source);
        depths(code);
        wildCalls();
        System.out.println("the face and " + CastWorks.class.getDeclaredClasses().length
                + " classes inside were looked at, " + wrong + " rules are broken");
        if (wrong != 0) {
            System.exit(1);
        }
    }
}
