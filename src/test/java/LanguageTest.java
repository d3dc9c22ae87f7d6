import java.io.IOException;
import java.lang.reflect.Constructor;
import java.lang.reflect.Field;
import java.lang.reflect.Member;
import java.lang.reflect.Method;
import java.lang.reflect.Modifier;
import java.nio.file.Files;
import java.nio.file.Path;
import java.util.ArrayList;
import java.util.List;
import java.util.regex.Matcher;
import java.util.regex.Pattern;

/** What can be seen of LANGUAGE.md in the source and in the class. Run from the project's folder. */
public final class LanguageTest {
    private static final Check check = new Check("LanguageTest");
    private static final List<String> FACE = List.of("state", "one", "tell", "wall", "set", "debt", "helpers", "of",
        "feed", "end", "text", "fault", "does", "word", "quarters", "noise", "lend", "split", "inherit", "sell", "undo",
        "soonest", "whom", "quiet", "thought", "person", "book", "image", "look");

    public static void main(String[] args) throws IOException {
        face();
        String source = Files.readString(Path.of("src/main/java/SilenceForMoney.java"));
        String code = withoutComments(source);
        forbidden(code);
        methods(code);
        depths();
        check.due("classes", SilenceForMoney.class.getDeclaredClasses().length <= 11, true);
        check.end();
    }

    private static void face() {
        List<String> open = new ArrayList<>();
        for (Method m : SilenceForMoney.class.getDeclaredMethods()) {
            look(m, FACE.contains(m.getName()));
            if (Modifier.isPublic(m.getModifiers())) {
                open.add(m.getName());
            }
        }
        check.due("methods of the face", open.size(), FACE.size());
        check.due("all of them", open.containsAll(FACE), true);
        for (Field f : SilenceForMoney.class.getDeclaredFields()) {
            look(f, f.getName().equals("NONE"));
        }
        for (Constructor<?> c : SilenceForMoney.class.getDeclaredConstructors()) {
            look(c, true);
        }
        check.due("public and final", SilenceForMoney.class.getModifiers(), Modifier.PUBLIC | Modifier.FINAL);
        for (Class<?> inside : SilenceForMoney.class.getDeclaredClasses()) {
            check.due("static " + inside, Modifier.isStatic(inside.getModifiers()), true);
            int fields = 0;
            for (Field f : inside.getDeclaredFields()) {
                fields += Modifier.isStatic(f.getModifiers()) ? 0 : 1;
            }
            check.due("fields of " + inside, fields <= 20, true);
            for (Method m : inside.getDeclaredMethods()) {
                check.due("a name of the face inside: " + m, FACE.contains(m.getName()), false);
                check.due("parameters of " + m, m.getParameterCount() <= 7, true);
            }
        }
    }

    private static void look(Member m, boolean open) {
        check.due("open " + m, Modifier.isPublic(m.getModifiers()), open);
        check.due("private " + m, Modifier.isPrivate(m.getModifiers()), !open);
    }

    private static String withoutComments(String source) {
        return source.replaceAll("(?s)/\\*.*?\\*/", "").replaceAll("//[^\n]*", "");
    }

    private static void forbidden(String code) {
        String[] patterns = {"\\bthrow\\b", "\\btry\\b", "\\bcatch\\b", "\\bsynchronized\\b", "\\bassert\\b", "->", "::",
            "\\bException\\b", "\\bSystem\\.(?!arraycopy)", "\\bMath\\.\\w+Exact\\b", "\\bpackage\\b", "while \\(true\\)",
            "\\[\\]\\[\\]", "\\bfor \\(;", "\\bprotected\\b", "\\bpublic (?!final class|static final int NONE|SilenceForMoney|int|boolean)",
            "\\bstatic (?!final)(?!int |boolean |void )", "\"[^\"]*\" \\+", "\\+ \""};
        for (String pattern : patterns) {
            Matcher m = Pattern.compile(pattern).matcher(code);
            check.due("forbidden " + pattern, m.find(), false);
        }
        Matcher imports = Pattern.compile("import ([\\w.]+);").matcher(code);
        while (imports.find()) {
            check.due("import " + imports.group(1), imports.group(1).equals("java.util.Arrays"), true);
        }
    }

    /** Calls go at most eight deep; the Reader's recursion is bounded by how many brackets may be open. */
    private static void depths() throws IOException {
        Calls calls = Calls.in(Path.of("src/main/java/SilenceForMoney.java"));
        check.due("methods that are found", calls.methods().size() > 100, true);
        check.due("chains that are found", calls.deepest("SilenceForMoney.thought") > 4, true);
        for (String name : FACE) {
            check.due("how deep " + name + " goes", calls.deepest("SilenceForMoney." + name) <= 8, true);
        }
    }

    private static void methods(String code) {
        String[] lines = code.split("\n");
        int start = -1;
        int indent = 0;
        for (int i = 0; i < lines.length; i++) {
            String line = lines[i];
            int in = line.length() - line.stripLeading().length();
            if (start < 0 && (in == 4 || in == 8) && line.endsWith(") {") && !line.contains(" class ")
                && !line.strip().matches("(if|for|while|switch)\\b.*")) {
                start = i;
                indent = in;
            } else if (start >= 0 && in == indent && line.strip().equals("}")) {
                check.due("length of" + lines[start], i - start + 1 <= 60, true);
                start = -1;
            }
        }
    }
}
