import java.io.File;
import java.io.IOException;
import java.lang.reflect.Method;
import java.lang.reflect.Modifier;
import java.nio.file.Files;
import java.nio.file.Path;
import java.util.List;
import java.util.regex.Matcher;
import java.util.regex.Pattern;

/** README.md: its examples answer what it says, and it names every call. Run from the project's folder. */
public final class ReadmeTest {
    private static final Pattern TOLD = Pattern.compile("(?:int (\\w+) = )?(x\\..*\\)); *// answers (-?\\w+).*");
    /** The examples are loaded apart, so they can't see Check, which is not public. */
    private static final String HEAD = """
        static final int NONE = SilenceForMoney.NONE;
        static int wrong = 0;
        static void due(String call, Object got, Object want) {
            if (!got.equals(want)) {
                wrong++;
                System.out.println("README.md: " + call + " answered " + got + ", it says " + want);
            }
        }
        """;
    private static final Check check = new Check("ReadmeTest");

    private ReadmeTest() {
    }

    public static void main(String[] args) throws IOException, InterruptedException {
        List<String> readme = Files.readAllLines(Path.of("README.md"));
        Path folder = Files.createTempDirectory("readme");
        Path file = folder.resolve("ReadmeExamples.java");
        Files.writeString(file, programOf(readme));
        check.due("the examples of README.md", run(file), 0);
        Files.delete(file);
        Files.delete(folder);
        names(String.join("\n", readme));
        check.end();
    }

    /** The examples as one class: those that begin with 'static' stand beside main, the others in it. */
    private static String programOf(List<String> readme) {
        StringBuilder methods = new StringBuilder();
        StringBuilder body = new StringBuilder();
        StringBuilder block = null;
        int told = 0;
        for (String line : readme) {
            if (line.equals("```java")) {
                block = new StringBuilder();
            } else if (block != null && line.equals("```")) {
                (block.indexOf("static ") == 0 ? methods : body).append(block);
                block = null;
            } else if (block != null) {
                Matcher m = TOLD.matcher(line);
                boolean tells = m.matches();
                told += tells ? 1 : 0;
                block.append(tells ? asked(m) : line).append('\n');
            }
        }
        check.due("examples that tell an answer", told >= 30, true);
        return "final class ReadmeExamples {\n" + HEAD + methods
            + "public static void main(String[] args) {\n" + body + "System.exit(wrong == 0 ? 0 : 1);\n}\n}\n";
    }

    private static String asked(Matcher m) {
        String name = m.group(1);
        String call = m.group(2);
        String first = name == null ? "" : "int " + name + " = " + call + "; ";
        return first + "due(\"" + call + "\", " + (name == null ? call : name) + ", " + m.group(3) + ");";
    }

    /** java compiles a single file by itself, with the classes of this test beside it. */
    private static int run(Path file) throws IOException, InterruptedException {
        String java = Path.of(System.getProperty("java.home"), "bin", "java").toString();
        String classes = System.getProperty("java.class.path");
        return new ProcessBuilder(java, "-cp", classes, file.toString()).inheritIO().start().waitFor();
    }

    private static void names(String readme) {
        for (Method m : SilenceForMoney.class.getDeclaredMethods()) {
            if (Modifier.isPublic(m.getModifiers())) {
                check.due("README.md names " + m.getName(), readme.contains("`" + m.getName() + "`"), true);
            }
        }
        check.due("README.md tells how to run the tests", readme.contains("\n.ci/run\n"), true);
        for (File file : new File("src/test/java").listFiles()) {
            String name = file.getName().replace(".java", "").replaceAll(".*EdgesTest", "..EdgesTest");
            check.due("README.md names " + name, !name.endsWith("Test") || readme.contains("`" + name + "`"), true);
        }
    }
}
