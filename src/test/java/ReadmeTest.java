import java.io.IOException;
import java.lang.reflect.Method;
import java.lang.reflect.Modifier;
import java.nio.charset.StandardCharsets;
import java.nio.file.Files;
import java.nio.file.Path;
import java.util.ArrayList;
import java.util.Comparator;
import java.util.List;
import java.util.Set;
import java.util.TreeSet;
import java.util.regex.Matcher;
import java.util.regex.Pattern;
import java.util.stream.Stream;

/** What README.md says of the use of the class and of how its tests are run holds as it stands there. */
public final class ReadmeTest {
    private static final Pattern PRINTED = Pattern.compile("println\\(.*\\); +// (true|false|-?\\d+)");

    public static void main(String[] args) throws Exception {
        String readme = Files.readString(Path.of("README.md"));
        Path folder = Files.createTempDirectory("readme");
        try {
            copy(Path.of("src"), folder);
            commands(readme, folder);
        } finally {
            remove(folder);
        }
        tests(readme);
        calls(readme);
        Due.end();
    }

    /** What stands between ```kind and ```, without the blanks ahead of its lines that a list puts there. */
    private static List<String> blocks(String readme, String kind) {
        List<String> all = new ArrayList<>();
        Matcher m = Pattern.compile("(?ms)^( *)```" + kind + "\\n(.*?)^ *```$").matcher(readme);
        while (m.find()) all.add(m.group(2).replaceAll("(?m)^" + m.group(1), ""));
        return all;
    }

    /** All commands are run as they stand there, in a folder with the sources and the example, but .ci/run, which runs this. */
    private static void commands(String readme, Path folder) throws Exception {
        List<String> examples = blocks(readme, "java");
        Due.is("examples", examples.size(), 1);
        Files.writeString(folder.resolve("Example.java"), examples.get(0));
        int scripts = 0;
        int runs = 0;
        for (String script : blocks(readme, "sh")) {
            if (script.trim().equals(".ci/run")) {
                runs++;
                Due.is(".ci/run is there", Files.isExecutable(Path.of(".ci/run")), true);
                continue;
            }
            scripts++;
            String told = output(script, folder);
            if (script.contains("Example")) example(examples.get(0), told);
            if (script.contains("ModelTest")) Due.is("runs, as told: " + told, told.trim().equals("5 runs as due"), true);
        }
        Due.is("commands", scripts, 3);
        Due.is("all tests", runs, 1);
    }

    private static void example(String source, String told) {
        List<String> due = new ArrayList<>();
        Matcher m = PRINTED.matcher(source);
        while (m.find()) due.add(m.group(1));
        Due.is("every line that prints tells what", due.size(), source.split("println", -1).length - 1);
        String[] got = told.trim().split("\\R");
        Due.is("lines of the example", got.length, due.size());
        for (int i = 0; i < got.length && i < due.size(); i++) {
            Due.is("line " + i + " of the example prints " + got[i] + ", due is " + due.get(i), got[i].equals(due.get(i)), true);
        }
    }

    private static String output(String script, Path folder) throws Exception {
        Process p = new ProcessBuilder("sh", "-e", "-c", script).directory(folder.toFile()).redirectErrorStream(true).start();
        p.getOutputStream().close();
        String told = new String(p.getInputStream().readAllBytes(), StandardCharsets.UTF_8);
        Due.is(script + told, p.waitFor(), 0);
        return told;
    }

    private static void tests(String readme) throws IOException {
        Set<String> named = new TreeSet<>();
        Matcher m = Pattern.compile("`(\\w+Test)`").matcher(readme);
        while (m.find()) named.add(m.group(1));
        Set<String> there = new TreeSet<>();
        try (Stream<Path> files = Files.list(Path.of("src/test/java"))) {
            files.map(f -> f.getFileName().toString()).filter(f -> f.endsWith("Test.java")).forEach(f -> there.add(f.replace(".java", "")));
        }
        Due.is("tests that are named: " + named + ", that are there: " + there, named.equals(there), true);
    }

    private static void calls(String readme) {
        for (Method m : DustMint.class.getDeclaredMethods()) {
            if (Modifier.isPublic(m.getModifiers())) Due.is(m.getName(), readme.contains("`" + m.getName() + "`"), true);
        }
    }

    private static void copy(Path from, Path folder) throws IOException {
        try (Stream<Path> all = Files.walk(from)) {
            for (Path p : (Iterable<Path>) all::iterator) {
                Path to = folder.resolve(p);
                if (Files.isDirectory(p)) Files.createDirectories(to);
                else Files.copy(p, to);
            }
        }
    }

    private static void remove(Path folder) throws IOException {
        try (Stream<Path> all = Files.walk(folder)) {
            for (Path p : (Iterable<Path>) all.sorted(Comparator.reverseOrder())::iterator) Files.delete(p);
        }
    }
}
