import java.io.PrintWriter;
import java.io.StringWriter;
import java.nio.file.Files;
import java.nio.file.Path;
import java.util.HashMap;
import java.util.HashSet;
import java.util.Map;
import java.util.Set;
import java.util.TreeSet;
import java.util.regex.Matcher;
import java.util.regex.Pattern;
import java.util.spi.ToolProvider;

/**
 * Rules 8 and 11 of ../shared/LANGUAGE.md: which methods come back to themselves, and how deep the
 * others call one another. The class is at the limit, so one more step anywhere would be too many.
 */
public final class DepthTest {
    private static final int DEEPEST = 8;
    /** Each of these carries its depth as an argument. */
    private static final Set<String> RECURSIVE = Set.of("BellsBelow$Text.anyHolds",
        "BellsBelow$Text.allHold", "BellsBelow$Text.oneHolds", "BellsBelow$Acts.body");
    private static final Pattern HEAD = Pattern.compile("  [^ ].*?([\\w$]+)\\(.*\\);");
    private static final Pattern CALL = Pattern.compile("// Method (?:([\\w$]+)\\.)?\"?([\\w<>]+)\"?:.*");
    private static final Due DUE = new Due("DepthTest");

    private final Map<String, Set<String>> calls = new HashMap<>();
    private final Map<String, Integer> known = new HashMap<>();

    public static void main(String[] args) throws Exception {
        if (ToolProvider.findFirst("javap").isEmpty()) {
            System.out.println("DepthTest: this JDK has no javap, so nothing was looked at");
            return;
        }
        DepthTest all = new DepthTest();
        all.reads("BellsBelow");
        for (Class<?> c : BellsBelow.class.getDeclaredClasses()) {
            all.reads(c.getName());
        }
        DUE.isSo("the calls were found", all.calls.getOrDefault("BellsBelow.pass", Set.of())
            .contains("BellsBelow$Hall.goes"));
        Set<String> recursive = new TreeSet<>();
        for (String method : all.calls.keySet()) {
            if (all.reached(method).contains(method)) {
                recursive.add(method);
            }
        }
        DUE.isSo("recursive are " + recursive, recursive.equals(RECURSIVE));
        for (String method : all.calls.keySet()) {
            int depth = all.depth(method);
            DUE.isSo(method + " goes " + depth + " deep", depth <= DEEPEST);
        }
        DUE.ends();
    }

    /** What each method of a class calls, as the compiled class tells it. */
    private void reads(String name) throws Exception {
        Path place = Path.of(BellsBelow.class.getProtectionDomain().getCodeSource().getLocation().toURI());
        StringWriter told = new StringWriter();
        PrintWriter out = new PrintWriter(told);
        Path file = place.resolve(name + ".class");
        DUE.isSo(name + " is there", Files.exists(file));
        ToolProvider.findFirst("javap").orElseThrow().run(out, out, "-p", "-c", file.toString());
        String from = "";
        for (String line : told.toString().split("\r?\n")) {
            Matcher head = HEAD.matcher(line);
            Matcher call = CALL.matcher(line);
            if (head.matches()) {
                from = name + "." + (head.group(1).equals(name) ? "<init>" : head.group(1));
                calls.put(from, new HashSet<>());
            } else if (call.find()) {
                calls.get(from).add((call.group(1) == null ? name : call.group(1)) + "." + call.group(2));
            }
        }
    }

    private Set<String> reached(String method) {
        Set<String> all = new HashSet<>();
        reaches(method, all);
        return all;
    }

    private void reaches(String method, Set<String> all) {
        for (String next : calls.getOrDefault(method, Set.of())) {
            if (all.add(next)) {
                reaches(next, all);
            }
        }
    }

    /** How many stand open at once below and with this one; recursive ones are counted as none. */
    private int depth(String method) {
        if (!calls.containsKey(method)) {
            return 0;
        }
        Integer is = known.get(method);
        if (is != null) {
            return is;
        }
        int deepest = 0;
        boolean recursive = RECURSIVE.contains(method);
        Set<String> next = recursive ? reached(method) : calls.get(method);
        for (String one : next) {
            if (!recursive || !RECURSIVE.contains(one)) {
                deepest = Math.max(deepest, depth(one));
            }
        }
        known.put(method, deepest + (recursive ? 0 : 1));
        return known.get(method);
    }
}
