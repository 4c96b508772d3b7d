import java.io.IOException;
import java.lang.reflect.Field;
import java.lang.reflect.Method;
import java.lang.reflect.Modifier;
import java.nio.file.Files;
import java.nio.file.Path;
import java.util.ArrayList;
import java.util.Arrays;
import java.util.List;
import java.util.Set;
import java.util.TreeSet;
import java.util.regex.Matcher;
import java.util.regex.Pattern;

/** The class's face, and those rules of LANGUAGE.md that can be read off the source or the class. */
public final class LanguageTests {
    private static final List<String> FACE = List.of(
            "int feed(int,int,int,int,int)", "boolean end(int)", "int form(int,int,int)", "int fault(int)",
            "int solid(int,int,int)", "int free(int,int,int)", "int shut()", "int draw()", "int way(int)",
            "int pieceAt(int,int,int)", "int piece(int,int)", "boolean wear(int,int)", "int pour(int)", "int mend(int)",
            "int run(int)", "int dry(int)", "int order(int,int,int)", "boolean cancel(int)", "int row()", "int next(int)",
            "int late(int)", "boolean cast(int,int,int)", "boolean copies(int,int,int)", "int mother(int)",
            "int steps(int)", "int told(int)");

    private static int wrong = 0;

    private LanguageTests() {
    }

    private static void must(String rule, boolean holds) {
        if (!holds) {
            wrong++;
            System.out.println("broken: " + rule);
        }
    }

    private static String signature(Method method) {
        List<String> types = new ArrayList<>();
        for (Class<?> type : method.getParameterTypes()) {
            types.add(type.getSimpleName());
        }
        return method.getReturnType().getSimpleName() + " " + method.getName() + "(" + String.join(",", types) + ")";
    }

    private static void face() {
        Set<String> open = new TreeSet<>();
        for (Method method : CastWorks.class.getDeclaredMethods()) {
            if (!Modifier.isPrivate(method.getModifiers())) {
                open.add(signature(method));
                must(method + " is public and not static", method.getModifiers() == Modifier.PUBLIC);
            }
        }
        must("rule 1: the face is the document's: " + open, open.equals(new TreeSet<>(FACE)));
        must("rule 1: public and final", CastWorks.class.getModifiers() == (Modifier.PUBLIC | Modifier.FINAL));
        must("rule 1: one constructor", CastWorks.class.getConstructors().length == 1
                && CastWorks.class.getDeclaredConstructors().length == 1);
        for (Field field : CastWorks.class.getDeclaredFields()) {
            must("rule 1: " + field + " is private, but for NONE",
                    field.getName().equals("NONE") != Modifier.isPrivate(field.getModifiers()));
        }
    }

    private static void classesInside() {
        Set<String> faceNames = new TreeSet<>();
        for (String method : FACE) {
            faceNames.add(method.substring(method.indexOf(' ') + 1, method.indexOf('(')));
        }
        Class<?>[] inside = CastWorks.class.getDeclaredClasses();
        must("rule 11: at most twelve classes", inside.length <= 11);
        for (Class<?> one : inside) {
            must("rule 2: " + one + " is static", Modifier.isStatic(one.getModifiers()));
            must("rule 2: " + one + " has none inside", one.getDeclaredClasses().length == 0);
            int fields = 0;
            for (Field field : one.getDeclaredFields()) {
                boolean constant = Modifier.isStatic(field.getModifiers());
                fields += constant ? 0 : 1;
                must("rule 5: " + field + " is final", !constant || Modifier.isFinal(field.getModifiers()));
            }
            must("rule 11: " + one + " has at most twenty fields", fields <= 20);
            for (Method method : one.getDeclaredMethods()) {
                must("rule 1: " + method + " bears no name of the face", !faceNames.contains(method.getName()));
                must("rule 11: " + method + " takes at most seven", method.getParameterCount() <= 7);
            }
        }
    }

    private static void words(String source) {
        String code = source.replaceAll("(?s)/\\*.*?\\*/", "").replaceAll("//[^\\n]*", "").replaceAll("\"[^\"\\n]*\"", "\"\"");
        for (String word : List.of("throw", "throws", "try", "catch", "synchronized", "assert", "package", "double", "float",
                "System\\.out", "System\\.exit", "Random", "Thread", "hashCode", "toString", "Exact", "native", "volatile")) {
            must("rules 3 to 6: no " + word, !Pattern.compile("\\b" + word + "\\b").matcher(code).find());
        }
        must("rule 2: no lambda, no method reference", !code.contains("->") && !code.contains("::"));
        Matcher imports = Pattern.compile("(?m)^import (.*);").matcher(code);
        while (imports.find()) {
            must("rule 4: no import of " + imports.group(1), imports.group(1).equals("java.util.Arrays"));
        }
        Matcher library = Pattern.compile("\\b(Arrays|System|Math|Integer|Long)\\.(\\w+)").matcher(code);
        Set<String> allowed = Set.of("Arrays.fill", "System.arraycopy", "Math.min", "Math.max", "Math.abs",
                "Integer.bitCount");
        while (library.find()) {
            must("rule 4: " + library.group(), allowed.contains(library.group()));
        }
        must("rule 4: fill is for numbers alone", !code.contains("boolean[]"));
        Matcher made = Pattern.compile("\\bnew\\b").matcher(code);
        int inMethods = 0;
        while (made.find()) {
            String line = code.substring(code.lastIndexOf('\n', made.start()) + 1, code.indexOf('\n', made.start()));
            inMethods += line.contains("private final") || line.contains("this.parting =") ? 0 : 1;
        }
        must("rows are made in constructors alone", inMethods == 0);
    }

    private static void lengths(String source) {
        String[] lines = source.split("\n");
        int start = -1;
        for (int i = 0; i < lines.length; i++) {
            must("a line of at most 120 characters: " + (i + 1), lines[i].length() <= 120);
            if (lines[i].matches("( {4}| {8})(private |public |static )*\\w[\\w\\[\\]]* \\w+\\(.*\\) \\{")) {
                start = i;
            } else if (lines[i].matches("( {4}| {8})\\}") && start >= 0) {
                must("rule 11: a method of at most sixty lines: " + (start + 1), i - start < 60);
                start = -1;
            }
        }
    }

    public static void main(String[] args) throws IOException {
        String source = Files.readString(Path.of("src/main/java/CastWorks.java"));
        face();
        classesInside();
        words(source);
        lengths(source);
        System.out.println("the face and " + Arrays.asList(CastWorks.class.getDeclaredClasses()).size()
                + " classes inside were looked at, " + wrong + " rules are broken");
        if (wrong != 0) {
            System.exit(1);
        }
    }
}
