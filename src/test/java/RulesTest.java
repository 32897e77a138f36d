import java.io.IOException;
import java.lang.management.ManagementFactory;
import java.lang.reflect.Constructor;
import java.lang.reflect.Field;
import java.lang.reflect.Method;
import java.lang.reflect.Modifier;
import java.nio.file.Files;
import java.nio.file.Path;
import java.util.Arrays;
import java.util.Set;
import java.util.TreeSet;
import java.util.regex.Matcher;
import java.util.regex.Pattern;

/** The face of the class, the rules of LANGUAGE.md that a scan can see, and the room that a run takes. */
public final class RulesTest {
    private static final Path SOURCE = Path.of("src/main/java/DustMint.java");
    private static final String[] FACE = {
        "boolean yard(int,int,int,boolean)", "boolean rain(int,int)", "boolean porter(int,int,int,int,int)",
        "boolean licence(int,int)", "boolean skill(int,int)", "int feed(int,int,int,int,int)", "int law(int)", "int hours(int)",
        "int hour(int)", "int yardIs(int,int)", "int porterIs(int,int)", "int tried(int,int)", "int sieved(int,int,int,int,int)",
        "int bowls(int,int,int)", "int carpet(int,int)", "int gust(int,int,int,int)", "int worth(int,int,int)",
        "int sold(int,int,int)", "int shook(int,int,int)", "int led(int,int)", "int share(int,int,int)", "int odds(int,int,int)",
        "boolean seed(int)", "int keep()", "boolean undo()", "int check(int)", "int count(int)",
    };

    public static void main(String[] args) throws Exception {
        face();
        scan(Files.readString(SOURCE));
        room();
        Due.end();
    }

    private static String told(Method m) {
        StringBuilder s = new StringBuilder(m.getReturnType().getName()).append(' ').append(m.getName()).append('(');
        for (Class<?> c : m.getParameterTypes()) s.append(s.charAt(s.length() - 1) == '(' ? "" : ",").append(c.getName());
        return s.append(')').toString();
    }

    private static void face() {
        Set<String> due = new TreeSet<>(Arrays.asList(FACE));
        Set<String> names = new TreeSet<>();
        for (String method : FACE) names.add(method.replaceAll(".* |\\(.*", ""));
        Set<String> got = new TreeSet<>();
        for (Method m : DustMint.class.getDeclaredMethods()) {
            if (!Modifier.isPrivate(m.getModifiers())) got.add(told(m));
            else Due.is("a private method named " + m.getName(), names.contains(m.getName()), false);
        }
        Due.is("the face is " + got, got.equals(due), true);
        Due.is("public final", DustMint.class.getModifiers(), Modifier.PUBLIC | Modifier.FINAL);
        for (Field f : DustMint.class.getDeclaredFields()) {
            if (!f.getName().equals("NONE")) Due.is("field " + f, Modifier.isPrivate(f.getModifiers()), true);
        }
        Constructor<?>[] made = DustMint.class.getDeclaredConstructors();
        Due.is("one constructor", made.length == 1 && Modifier.isPublic(made[0].getModifiers()), true);
        for (Class<?> c : DustMint.class.getDeclaredClasses()) {
            Due.is("static " + c, Modifier.isStatic(c.getModifiers()), true);
            Due.is("fields of " + c, count(c) <= 20, true);
            for (Method m : c.getDeclaredMethods()) {
                Due.is("a method named " + m.getName(), names.contains(m.getName()), false);
                Due.is("parameters of " + m, m.getParameterCount() <= 7, true);
            }
        }
        Due.is("fields", count(DustMint.class) <= 20, true);
        Due.is("classes", DustMint.class.getDeclaredClasses().length <= 11, true);
    }

    private static int count(Class<?> c) {
        int n = 0;
        for (Field f : c.getDeclaredFields()) n += Modifier.isStatic(f.getModifiers()) ? 0 : 1;
        return n;
    }

    private static void scan(String source) throws IOException {
        String code = source.replaceAll("(?s)/\\*.*?\\*/", "").replaceAll("//[^\n]*", "").replaceAll("\"[^\"\n]*\"", "\"\"");
        String[] never = {"throw", "throws", "try", "catch", "finally", "synchronized", "assert", "package", "native", "volatile",
            "protected", "var", "Object", "System\\.out", "\\w+Exact", "Random", "Thread", "hashCode", "toString", "yield", "record"};
        for (String word : never) Due.is(word, Pattern.compile("\\b" + word + "\\b").matcher(code).find(), false);
        Due.is("->", code.contains("->"), false);
        Due.is("::", code.contains("::"), false);
        Matcher imports = Pattern.compile("import ([^;]*);").matcher(code);
        while (imports.find()) Due.is("import " + imports.group(1), imports.group(1).equals("java.util.Arrays"), true);
        for (char c : source.toCharArray()) if (c > 126 || c < 10) Due.is("a sign in the source", c, ' ');
        int from = 0;
        String[] lines = source.split("\n");
        for (int i = 0; i < lines.length; i++) {
            if (lines[i].matches(" {4}( {4})?\\w.*\\) \\{")) from = i;
            if (lines[i].matches(" {4}( {4})?\\}")) Due.is("lines from " + (from + 1), i - from <= 60, true);
        }
    }

    /** Calls make no objects; a new one is small. */
    private static void room() {
        com.sun.management.ThreadMXBean bean = (com.sun.management.ThreadMXBean) ManagementFactory.getThreadMXBean();
        long id = Thread.currentThread().getId();
        callAll(new DustMint());
        bean.getThreadAllocatedBytes(id);
        long before = bean.getThreadAllocatedBytes(id);
        DustMint x = new DustMint();
        long made = bean.getThreadAllocatedBytes(id);
        callAll(x);
        long called = bean.getThreadAllocatedBytes(id);
        Due.is("bytes of a new object: " + (made - before), made - before < 40000, true);
        Due.is("bytes of its calls", (int) (called - made), 0);
    }

    private static void callAll(DustMint x) {
        // l9+z*9-c(d<50);m3(1=1);s2+q(1=1) with a blank behind it.
        x.feed(0x6c392b7a, 0x2a392d63, 0x28643c35, 0x30293b6d, 0x3328313d);
        x.feed(0x31293b73, 0x322b7128, 0x313d3129, 0x20202020, 0x20202020);
        x.law(32);
        for (int y = 0; y < 20; y++) x.yard(y, 30 + y, y % 3 - 1, y % 4 == 0);
        for (int p = 0; p < 9; p++) x.porter(p, p, 500 + p, p, p);
        x.licence(3, 2);
        x.skill(2, 4);
        x.rain(3, 3);
        x.keep();
        x.hours(4);
        x.undo();
        x.hour(3);
        for (int what = 0; what < 60; what++) x.tried(3, what);
        x.sieved(1, 4, 3, 2, NONE);
        x.bowls(63, 4, 9);
        x.carpet(5, 0);
        x.gust(3, 2, 9, 1);
        x.worth(4, 3, 9);
        x.sold(4, 9, 1);
        x.feed(0, 0, 0, 0, 0);
        x.shook(4, 3, 0);
        x.led(NONE, NONE);
        x.share(0, 0, 0);
        x.odds(3, 500, 0);
        x.seed(4);
        x.check(0);
        for (int what = 0; what < 200; what++) x.count(what);
        for (int what = 0; what < 6; what++) x.porterIs(4, what);
        for (int what = 0; what < 6; what++) x.yardIs(4, what);
    }

    private static final int NONE = DustMint.NONE;
}
