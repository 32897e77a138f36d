import java.lang.reflect.InvocationTargetException;
import java.lang.reflect.Method;
import java.lang.reflect.Modifier;

/** Every call with every row of far and near numbers, on a new hill and on a full one: none may throw, and all must end. */
public final class StormTest {
    private static final int[] FEW = {Integer.MIN_VALUE, -2, -1, 0, 1, 5, 20, 65536, Integer.MAX_VALUE};
    private static final int[] MANY = {Integer.MIN_VALUE, Integer.MIN_VALUE + 20, -1001, -33, -4, -3, -2, -1, 0, 1, 2, 3, 4, 5, 6, 8, 9, 10,
        19, 20, 21, 31, 32, 33, 40, 41, 59, 60, 99, 100, 199, 200, 201, 220, 511, 512, 999, 1000, 9999, 10000, 65535, 65536, 99999,
        100000, 1 << 30, Integer.MAX_VALUE - 19, Integer.MAX_VALUE};
    private static final int MOST_CALLS = 400;
    private static final Rig RIG = Rig.ofNumbers();
    private DustMint x = null;
    private boolean onFull = false;
    private int calls = 0;

    public static void main(String[] args) throws Exception {
        StormTest storm = new StormTest();
        for (Method m : DustMint.class.getDeclaredMethods()) {
            if (!Modifier.isPublic(m.getModifiers())) continue;
            for (boolean full : new boolean[] {false, true}) {
                storm.onFull = full;
                storm.x = null;
                storm.blow(m, new Object[m.getParameterCount()], 0);
            }
        }
        Due.end();
    }

    private void blow(Method m, Object[] args, int at) throws Exception {
        if (at == args.length) {
            ask(m, args);
            return;
        }
        if (m.getParameterTypes()[at] == boolean.class) {
            args[at] = true;
            blow(m, args, at + 1);
            return;
        }
        for (int n : args.length > 2 ? FEW : MANY) {
            args[at] = n;
            blow(m, args, at + 1);
        }
    }

    private void ask(Method m, Object[] args) throws Exception {
        if (x == null || ++calls > MOST_CALLS) {
            x = onFull ? RIG.made() : new DustMint();
            calls = 0;
        }
        try {
            m.invoke(x, args);
            Due.is("no throw", 0, 0);
        } catch (InvocationTargetException e) {
            Due.is(m.getName() + java.util.Arrays.toString(args) + " threw " + e.getCause(), 1, 0);
        }
    }
}
