import java.io.File;
import java.io.PrintWriter;
import java.io.StringWriter;
import java.util.ArrayList;
import java.util.Arrays;
import java.util.HashSet;
import java.util.List;
import java.util.Map;
import java.util.Set;
import java.util.TreeMap;
import java.util.TreeSet;
import java.util.regex.Matcher;
import java.util.regex.Pattern;
import java.util.spi.ToolProvider;

/** Which method of the compiled class calls which of its own, as javap tells it. */
final class Calls {
    private static final Pattern CLASS = Pattern.compile("^\\S.*class (\\S+) \\{");
    private static final Pattern METHOD = Pattern.compile("^  \\S.*?([\\w$.]+)\\(.*\\);");
    private static final Pattern CALL = Pattern.compile("// Method ([^:]+):");

    private final Map<String, Set<String>> calls = new TreeMap<>();

    Calls(File folder, String name) {
        List<String> files = new ArrayList<>(List.of("-p", "-c"));
        for (File file : folder.listFiles()) {
            if (file.getName().matches(name + "(\\$.*)?\\.class")) {
                files.add(file.getPath());
            }
        }
        StringWriter out = new StringWriter();
        PrintWriter to = new PrintWriter(out);
        ToolProvider.findFirst("javap").orElseThrow().run(to, to, files.toArray(new String[0]));
        read(out.toString().split("\n"));
    }

    private void read(String[] lines) {
        String owner = "";
        String method = "";
        for (String line : lines) {
            Matcher type = CLASS.matcher(line);
            Matcher declared = METHOD.matcher(line);
            Matcher call = CALL.matcher(line);
            if (type.find()) {
                owner = type.group(1);
            } else if (declared.find()) {
                String called = declared.group(1);
                method = owner + "." + (called.equals(owner) ? "<init>" : called);
                calls.put(method, new TreeSet<>());
            } else if (call.find()) {
                String called = call.group(1).replace("\"", "");
                calls.get(method).add(called.contains(".") ? called : owner + "." + called);
            }
        }
    }

    Set<String> methods() {
        return calls.keySet();
    }

    /** How many methods stand open at most, from this one on, none of them twice. */
    int deepest(String method) {
        return deepest(method, new HashSet<>(Arrays.asList(method)));
    }

    private int deepest(String method, Set<String> open) {
        int most = 0;
        for (String next : calls.get(method)) {
            if (calls.containsKey(next) && open.add(next)) {
                most = Math.max(most, deepest(next, open));
                open.remove(next);
            }
        }
        return most + 1;
    }
}
