import java.io.PrintWriter;
import java.io.StringWriter;
import java.util.ArrayList;
import java.util.HashMap;
import java.util.HashSet;
import java.util.List;
import java.util.Map;
import java.util.Set;
import java.util.TreeSet;
import java.util.regex.Matcher;
import java.util.regex.Pattern;
import java.util.spi.ToolProvider;

/** Rules 8 and 11 of LANGUAGE.md: how deep calls go, and that a plan alone calls itself; rule 12: who makes objects. */
public final class DepthTest {
    private static final int DEEPEST = 8;
    private static final Map<String, Set<String>> CALLS = new HashMap<>();
    private static final Set<String> MAKERS = new TreeSet<>();
    private static final Set<String> SELF = new TreeSet<>();

    public static void main(String[] args) {
        read(PlateVote.class);
        for (Class<?> inside : PlateVote.class.getDeclaredClasses()) {
            read(inside);
        }
        for (String method : CALLS.keySet()) {
            List<String> chain = deepest(method, new ArrayList<>());
            CheckKit.due("calls at most eight deep: " + chain, chain.size() <= DEEPEST, true);
        }
        CheckKit.due("what calls itself: " + SELF, SELF.toString().equals("[PlateVote$Planner.search]"), true);
        for (String maker : MAKERS) {
            boolean fits = maker.endsWith("<init>") || maker.equals("PlateVote.look");
            CheckKit.due("makes objects or arrays: " + maker, fits, true);
        }
        CheckKit.end();
    }

    private static void read(Class<?> of) {
        StringWriter out = new StringWriter();
        ToolProvider javap = ToolProvider.findFirst("javap").orElseThrow();
        String path = of.getResource(of.getName() + ".class").getPath();
        javap.run(new PrintWriter(out), new PrintWriter(out), "-p", "-c", path);
        Pattern method = Pattern.compile("^  [\\w\\[\\]. ,$]*?([\\w.$]+)\\([^)]*\\)( throws .*)?;$");
        Pattern call = Pattern.compile("// (?:Interface)?Method ([\\w$/]+\\.)?\"?([\\w$<>]+)\"?:");
        String now = null;
        for (String line : out.toString().split("\n")) {
            Matcher m = method.matcher(line);
            if (m.find()) {
                String name = m.group(1).equals(of.getName()) ? "<init>" : m.group(1);
                now = of.getName() + "." + name;
                CALLS.putIfAbsent(now, new HashSet<>());
            }
            if (line.equals("  static {};")) {
                // The constants' own arrays.
                now = null;
            }
            m = call.matcher(line);
            if (now != null && m.find()) {
                CALLS.get(now).add((m.group(1) == null ? of.getName() + "." : m.group(1)) + m.group(2));
            }
            if (now != null && line.matches(".*: (new|newarray|anewarray|multianewarray|invokedynamic) .*")) {
                MAKERS.add(now);
            }
        }
    }

    private static List<String> deepest(String method, List<String> open) {
        List<String> best = new ArrayList<>();
        if (open.contains(method)) {
            SELF.add(method);
            return best;
        }
        List<String> here = new ArrayList<>(open);
        here.add(method);
        for (String called : CALLS.getOrDefault(method, Set.of())) {
            if (CALLS.containsKey(called)) {
                List<String> chain = deepest(called, here);
                best = chain.size() > best.size() ? chain : best;
            }
        }
        best.add(0, method);
        return best;
    }
}
