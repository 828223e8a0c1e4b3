import java.io.File;
import java.io.PrintWriter;
import java.io.StringWriter;
import java.util.ArrayList;
import java.util.HashMap;
import java.util.HashSet;
import java.util.List;
import java.util.Map;
import java.util.Set;
import java.util.TreeMap;
import java.util.TreeSet;
import java.util.regex.Matcher;
import java.util.regex.Pattern;
import java.util.spi.ToolProvider;

/** LANGUAGE.md, rule 11: calls that are no recursion go at most eight deep (methods that call each other count as one), by the compiled classes. */
public final class DepthTest {
    private static final Pattern METHOD = Pattern.compile("  \\S.*?([\\w$]+)\\([^)]*\\).*;");
    private static final Pattern CALL = Pattern.compile("// Method (?:([\\w$/]+)\\.)?(\\w+):");

    private final Map<String, Set<String>> calls = new TreeMap<>();
    private final Map<String, Set<String>> reached = new HashMap<>();
    private final Map<String, List<String>> chains = new HashMap<>();

    public static void main(String[] args) throws Exception {
        Check check = new Check("DepthTest");
        DepthTest depth = new DepthTest();
        File where = new File(BarterIsles.class.getProtectionDomain().getCodeSource().getLocation().toURI());
        for (File file : where.listFiles()) {
            if (file.getName().matches("BarterIsles(\\$\\w+)?\\.class")) {
                depth.read(file);
            }
        }
        check.yes("calls were found", depth.calls.getOrDefault("BarterIsles.sea", Set.of()).contains("BarterIsles$SeaReader.read"));
        for (String method : depth.calls.keySet()) {
            List<String> chain = depth.longest(method);
            check.yes("rule 11: " + chain, chain.size() <= 8);
        }
        check.end();
    }

    private void read(File file) {
        StringWriter text = new StringWriter();
        PrintWriter out = new PrintWriter(text);
        ToolProvider.findFirst("javap").orElseThrow().run(out, out, "-c", "-p", file.getPath());
        out.flush();
        String kind = file.getName().replace(".class", "");
        String method = "";
        for (String line : text.toString().split("\n")) {
            Matcher begins = METHOD.matcher(line);
            Matcher call = CALL.matcher(line);
            if (begins.matches()) {
                method = kind + "." + begins.group(1);
                calls.computeIfAbsent(method, key -> new TreeSet<>());
            } else if (call.find()) {
                calls.get(method).add((call.group(1) == null ? kind : call.group(1)) + "." + call.group(2));
            }
        }
    }

    /** All own methods that a call of this one can come to. */
    private Set<String> reach(String method) {
        Set<String> all = reached.get(method);
        if (all == null) {
            all = new HashSet<>();
            List<String> open = new ArrayList<>(List.of(method));
            while (!open.isEmpty()) {
                for (String next : calls.get(open.remove(open.size() - 1))) {
                    if (calls.containsKey(next) && all.add(next)) {
                        open.add(next);
                    }
                }
            }
            reached.put(method, all);
        }
        return all;
    }

    private List<String> longest(String method) {
        List<String> known = chains.get(method);
        if (known != null) {
            return known;
        }
        List<String> best = List.of();
        for (String next : reach(method)) {
            // What comes back to this method is recursion.
            if (!reach(next).contains(method)) {
                List<String> chain = longest(next);
                best = chain.size() > best.size() ? chain : best;
            }
        }
        List<String> chain = new ArrayList<>(List.of(method));
        chain.addAll(best);
        chains.put(method, chain);
        return chain;
    }
}
