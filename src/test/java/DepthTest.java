import java.io.PrintWriter;
import java.io.StringWriter;
import java.nio.file.Files;
import java.nio.file.Path;
import java.util.HashMap;
import java.util.HashSet;
import java.util.Map;
import java.util.Set;
import java.util.TreeMap;
import java.util.TreeSet;
import java.util.regex.Matcher;
import java.util.regex.Pattern;
import java.util.spi.ToolProvider;
import java.util.stream.Stream;

/** LANGUAGE.md 11: "calls that are no recursion go at most eight deep", by the compiled class; and what of it is recursion. */
public final class DepthTest {
    private static final int MOST_DEEP = 8;
    private static final Pattern HEAD = Pattern.compile("  (?:[\\w\\[\\].$]+ )*([\\w$.]+)\\(.*\\);");
    private static final Pattern CALL = Pattern.compile("invoke\\w+ .*// Method (\\S+):.*");
    private final Map<String, Set<String>> calls = new TreeMap<>();
    private final Map<String, Set<String>> reached = new HashMap<>();
    private final Map<String, Integer> depths = new HashMap<>();

    public static void main(String[] args) throws Exception {
        DepthTest test = new DepthTest();
        test.read(Path.of(DustMint.class.getProtectionDomain().getCodeSource().getLocation().toURI()));
        test.deep();
        test.recursion();
        Due.end();
    }

    private void read(Path folder) throws Exception {
        try (Stream<Path> files = Files.list(folder)) {
            for (Path file : (Iterable<Path>) files::iterator) {
                String name = file.getFileName().toString();
                if (name.matches("DustMint(\\$\\w+)?\\.class")) readClass(file, name.replace(".class", ""));
            }
        }
    }

    private void readClass(Path file, String name) {
        StringWriter told = new StringWriter();
        ToolProvider javap = ToolProvider.findFirst("javap").orElseThrow();
        javap.run(new PrintWriter(told), new PrintWriter(System.err), "-p", "-c", file.toString());
        String method = null;
        for (String line : told.toString().split("\\R")) {
            Matcher head = HEAD.matcher(line);
            Matcher call = CALL.matcher(line);
            if (head.matches()) {
                method = name + "." + (head.group(1).equals(name) ? "<init>" : head.group(1));
                calls.putIfAbsent(method, new TreeSet<>());
            } else if (method != null && call.find()) {
                String callee = call.group(1).replace("\"", "");
                if (!callee.contains(".")) callee = name + "." + callee;
                if (callee.startsWith("DustMint")) calls.get(method).add(callee);
            }
        }
    }

    /** All methods that a method may come to. */
    private Set<String> reach(String method) {
        Set<String> all = reached.get(method);
        if (all == null) {
            all = new HashSet<>();
            gather(method, all);
            reached.put(method, all);
        }
        return all;
    }

    private void gather(String method, Set<String> all) {
        for (String callee : calls.getOrDefault(method, Set.of())) if (all.add(callee)) gather(callee, all);
    }

    private boolean areOne(String a, String b) {
        return a.equals(b) || reach(a).contains(b) && reach(b).contains(a);
    }

    /** Methods that call one another count as one. */
    private int depth(String method) {
        if (depths.containsKey(method)) return depths.get(method);
        int most = 0;
        for (String one : calls.keySet()) {
            if (!areOne(one, method)) continue;
            for (String callee : calls.get(one)) if (!areOne(callee, method)) most = Math.max(most, depth(callee));
        }
        depths.put(method, most + 1);
        return most + 1;
    }

    private void deep() {
        Due.is("methods are found", calls.size() > 60, true);
        Due.is("calls are found", depth("DustMint.sieved") > 3, true);
        for (String method : calls.keySet()) Due.is(method + " goes " + depth(method) + " deep", depth(method) <= MOST_DEEP, true);
    }

    /** Only the law's reader may come back to a method: by pieces in pieces and sums in sums, six in one another at most. */
    private void recursion() {
        Set<String> got = new TreeSet<>();
        for (String method : calls.keySet()) if (reach(method).contains(method)) got.add(method.replace("DustMint$Reader.", ""));
        Set<String> due = Set.of("readParts", "readPieces", "readPiece", "readSum", "readTerm", "readFactor");
        Due.is("recursion of " + got, got.equals(due), true);
    }
}
