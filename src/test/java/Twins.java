import java.nio.charset.StandardCharsets;
import java.util.ArrayList;
import java.util.Arrays;
import java.util.List;

/** A DustMint and a SlowMint that get the same calls. */
final class Twins {
    /** As many as an object is made for, less what one step of a test may need. */
    private static final int MOST_CALLS = 512 - 60;
    private final DustMint fast = new DustMint();
    private final SlowMint slow = new SlowMint();
    private final List<String> calls = new ArrayList<>();
    private int used = 0;

    /** For one call beside those that both get, to draw the next ones by. */
    DustMint fast() {
        used++;
        return fast;
    }

    boolean hasCalls() {
        return used < MOST_CALLS;
    }

    boolean same(String name, Object... args) throws Exception {
        Class<?>[] kinds = new Class<?>[args.length];
        for (int i = 0; i < args.length; i++) kinds[i] = args[i] instanceof Boolean ? boolean.class : int.class;
        used++;
        Object got = DustMint.class.getMethod(name, kinds).invoke(fast, args);
        Object due = SlowMint.class.getMethod(name, kinds).invoke(slow, args);
        calls.add(name + Arrays.toString(args) + " answered " + got + (got.equals(due) ? "" : ", due is " + due));
        return got.equals(due);
    }

    boolean emptied() throws Exception {
        return same("check", 0);
    }

    boolean feedBytes(byte[] bytes) throws Exception {
        for (int i = 0; i < bytes.length; i += 20) {
            int[] n = new int[5];
            for (int k = 0; k < 20; k++) n[k / 4] = n[k / 4] << 8 | (i + k < bytes.length ? bytes[i + k] & 255 : ' ');
            if (!same("feed", n[0], n[1], n[2], n[3], n[4])) return false;
        }
        return true;
    }

    boolean lawBy(String text) throws Exception {
        calls.add("text " + text);
        return emptied() && feedBytes(text.getBytes(StandardCharsets.ISO_8859_1)) && same("law", text.length());
    }

    void tell(long run) {
        System.out.println("run " + run + ":");
        for (String call : calls) System.out.println("  " + call);
    }
}
