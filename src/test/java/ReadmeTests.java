import java.io.File;
import java.io.IOException;
import java.lang.reflect.Method;
import java.lang.reflect.Modifier;
import java.nio.file.Files;
import java.nio.file.Path;
import java.util.ArrayList;
import java.util.List;
import java.util.regex.Matcher;
import java.util.regex.Pattern;

/** Runs what README.md shows: its lines of Java with the answers that it states, and its commands. */
public final class ReadmeTests {
    private static final Pattern ANSWERED = Pattern.compile("(?:int|boolean) (\\w+) = .*; +// (-?\\d+|true|false)\\b.*");
    private static final Pattern UNANSWERED = Pattern.compile("CastWorks \\w+ = new CastWorks\\(\\);|lay\\(works, \".*\"\\);");

    private static int checks = 0;
    private static int wrong = 0;

    private ReadmeTests() {
    }

    private static void must(String what, boolean holds) {
        checks++;
        if (!holds) {
            wrong++;
            System.out.println("wrong: " + what);
        }
    }

    public static void main(String[] args) throws IOException, InterruptedException {
        String readme = Files.readString(Path.of("README.md"));
        showsEveryCall(readme);
        runUse(readme);
        runCommands(readme);
        namesWhatIsThere(readme);
        System.out.println(checks + " things that README.md says, " + wrong + " of them wrong");
        if (wrong != 0) {
            System.exit(1);
        }
    }

    private static List<String> blocks(String readme, String kind) {
        List<String> found = new ArrayList<>();
        Matcher fences = Pattern.compile("(?ms)^```" + kind + "\n(.*?)^```$").matcher(readme);
        while (fences.find()) {
            found.add(fences.group(1));
        }
        must("it has blocks of " + kind, !found.isEmpty());
        return found;
    }

    private static void showsEveryCall(String readme) {
        String java = String.join("", blocks(readme, "java"));
        for (Method method : CastWorks.class.getDeclaredMethods()) {
            must("it shows how " + method.getName() + " is used",
                    !Modifier.isPublic(method.getModifiers()) || java.contains("works." + method.getName() + "("));
        }
    }

    /** The lines go into one main method as they stand, and behind each stated answer the true one is printed. */
    private static void runUse(String readme) throws IOException, InterruptedException {
        StringBuilder methods = new StringBuilder();
        StringBuilder lines = new StringBuilder();
        List<String> stated = new ArrayList<>();
        for (String block : blocks(readme, "java")) {
            if (block.startsWith("static ")) {
                methods.append(block);
                continue;
            }
            for (String line : block.split("\n")) {
                lines.append(line).append('\n');
                Matcher answer = ANSWERED.matcher(line);
                must("the answer is stated: " + line, answer.matches() || UNANSWERED.matcher(line).matches());
                if (answer.matches()) {
                    lines.append("System.out.println(").append(answer.group(1)).append(");\n");
                    stated.add(answer.group(2) + " by " + line);
                }
            }
        }
        compareAnswers(stated, answersOf("public final class ReadmeUse {\n" + methods
                + "public static void main(String[] args) {\n" + lines + "}\n}\n"));
    }

    private static List<String> answersOf(String source) throws IOException, InterruptedException {
        Path folder = Files.createTempDirectory("readme");
        Path file = folder.resolve("ReadmeUse.java");
        Files.writeString(file, source);
        List<String> output = new ArrayList<>();
        int compiled = run(output, "javac", "-d", folder.toString(), "src/main/java/CastWorks.java", file.toString());
        must("its lines of Java are compiled: " + output, compiled == 0);
        output.clear();
        int code = run(output, "java", "-cp", folder.toString(), "ReadmeUse");
        must("its lines of Java are run: " + output, code == 0);
        for (File left : folder.toFile().listFiles()) {
            Files.delete(left.toPath());
        }
        Files.delete(folder);
        return output;
    }

    private static void compareAnswers(List<String> stated, List<String> got) {
        must("as many answers as are stated", stated.size() == got.size());
        for (int i = 0; i < stated.size() && i < got.size(); i++) {
            must("it is " + got.get(i) + ", stated is " + stated.get(i), stated.get(i).startsWith(got.get(i) + " by "));
        }
    }

    /** The command that runs all tests is the one that runs this one, so it is left out. */
    private static void runCommands(String readme) throws IOException, InterruptedException {
        for (String block : blocks(readme, "sh")) {
            for (String command : block.split("\n")) {
                boolean known = command.matches("\\.ci/run( \\w+)*") && !command.contains("Readme");
                must("a command that is known: " + command, known);
                if (known && command.contains(" ")) {
                    List<String> output = new ArrayList<>();
                    int code = run(output, ("bash " + command).split(" "));
                    must(command + " ends with " + code + ": " + output, code == 0);
                }
            }
        }
    }

    private static int run(List<String> output, String... command) throws IOException, InterruptedException {
        Process process = new ProcessBuilder(command).redirectErrorStream(true).start();
        process.getOutputStream().close();
        String text = new String(process.getInputStream().readAllBytes());
        output.addAll(text.lines().toList());
        return process.waitFor();
    }

    private static void namesWhatIsThere(String readme) {
        Matcher paths = Pattern.compile("`((?:src/|\\.\\./|\\.ci/)[\\w./]*)`").matcher(readme);
        while (paths.find()) {
            must(paths.group(1) + " is there", Files.exists(Path.of(paths.group(1))));
        }
        for (File test : new File("src/test/java").listFiles((folder, name) -> name.endsWith(".java"))) {
            must("it says what " + test.getName() + " is", readme.contains("`src/test/java/" + test.getName() + "`"));
        }
    }
}
