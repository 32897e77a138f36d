import java.lang.reflect.Method;
import java.util.ArrayList;
import java.util.List;
import java.util.Random;

/** Long runs of drawn calls, each answered by DustMint and by SlowMint, which must agree. Arguments: first run, runs. */
public final class ModelTest {
    private static final int RUNS = 80;
    private static final int CALLS = 400;
    private static final int[] EDGES = {Integer.MIN_VALUE, -1001, -3, -2, -1, 0, 1, 9, 10, 20, 21, 40, 41, 100, 200, 201, 512,
        65535, 65536, 99999, 100000, Integer.MAX_VALUE};
    private final Random random;
    private final Twins twins = new Twins();
    private int sievings = 0;
    private int swappings = 0;

    private ModelTest(long seed) {
        random = new Random(seed);
    }

    public static void main(String[] args) throws Exception {
        long first = args.length > 0 ? Long.parseLong(args[0]) : 1;
        long runs = args.length > 1 ? Long.parseLong(args[1]) : RUNS;
        for (long seed = first; seed < first + runs; seed++) {
            if (!new ModelTest(seed).run(seed)) System.exit(1);
        }
        System.out.println(runs + " runs as due");
    }

    private boolean run(long seed) throws Exception {
        Method[] methods = SlowMint.class.getDeclaredMethods();
        List<String> names = new ArrayList<>();
        for (Method m : methods) if (java.lang.reflect.Modifier.isPublic(m.getModifiers())) names.add(m.getName());
        names.sort(null);
        if (names.size() != 27) throw new IllegalStateException("the face has 27 methods");
        for (int i = 0; i < 30; i++) if (!setUp()) return fail(seed);
        for (int i = 0; i < CALLS && twins.hasCalls(); i++) {
            int way = random.nextInt(24);
            boolean right = way == 0 ? lawful() : way < 5 ? setUp() : way == 5 ? shaken() : way == 6 ? checked()
                : drawn(names.get(random.nextInt(names.size())));
            if (!right) return fail(seed);
        }
        return true;
    }

    private boolean fail(long seed) {
        twins.tell(seed);
        return false;
    }

    private int to(int n) {
        return random.nextInt(n + 1);
    }

    private boolean same(String name, Object... args) throws Exception {
        return twins.same(name, args);
    }

    private boolean setUp() throws Exception {
        switch (to(9)) {
            case 6:
            case 7:
            case 0: return same("yard", to(19), to(5) == 0 ? 99990 + to(9) : to(200), to(6) - 3, random.nextBoolean());
            case 1: return same("rain", to(30), to(9));
            case 2:
            case 3: return same("porter", to(8), to(19), to(3) == 0 ? to(9999) : to(300), to(3) == 0 ? to(9) : to(2), to(9));
            case 4: return same("licence", to(19), to(6) - 1);
            case 5: return same("skill", to(5), to(9));
            case 8: return same("seed", to(65535));
            default: return to(2) > 0 || lawful();
        }
    }

    private boolean emptied() throws Exception {
        return twins.emptied();
    }

    private boolean feedBytes(byte[] bytes) throws Exception {
        return twins.feedBytes(bytes);
    }

    private boolean lawful() throws Exception {
        String text = to(2) > 0 ? new Texts(random).tame() : new Texts(random).law();
        if (text.length() > 200) text = text.substring(0, 200);
        if (to(4) == 0) text = new Texts(random).spoilt(text);
        if (text.isEmpty()) return true;
        return twins.lawBy(text) && same("count", 1);
    }

    /** What a porter of a trial would lose, so that there is something to find. */
    private boolean shaken() throws Exception {
        int p = to(8);
        if (!same("keep")) return false;
        int n = 1 + to(7);
        byte[] lost = new byte[n];
        for (int h = 0; h < n; h++) {
            int before = twins.fast().led(p, -1);
            if (!same("hours", 1)) return false;
            lost[h] = (byte) (twins.fast().led(p, -1) - before);
        }
        int what = to(2) - 1;
        return same("undo") && emptied() && feedBytes(lost) && same("shook", p, n, what);
    }

    private boolean checked() throws Exception {
        byte[] bytes = new byte[80];
        int n = to(20);
        for (int i = 0; i < 20; i++) {
            int dust = twins.fast().yardIs(i, 0) + (to(40) == 0 ? 1 : 0);
            for (int k = 0; k < 4; k++) bytes[4 * i + k] = (byte) (dust >> 24 - 8 * k);
        }
        return emptied() && feedBytes(bytes) && same("check", n);
    }

    private boolean drawn(String name) throws Exception {
        Object[] args;
        switch (name) {
            case "yard": return to(3) > 0 || same(name, to(20), to(100000), to(8) - 4, random.nextBoolean());
            case "rain": args = row(to(101) - 1, to(10)); break;
            case "porter": args = row(to(9), to(20), to(10000), to(9), to(9)); break;
            case "licence": args = row(to(20), to(8) - 2); break;
            case "skill": args = row(to(6), to(10)); break;
            case "feed": args = row(random.nextInt(), random.nextInt(), to(9), to(9), to(9)); break;
            case "law": args = row(to(201)); break;
            case "hours": args = row(to(9) == 0 ? to(41) : 1 + to(2)); break;
            case "hour": args = row(to(10)); break;
            case "yardIs": args = row(to(20), to(4)); break;
            case "porterIs": args = row(to(9), to(5)); break;
            case "tried": args = row(1 + to(to(3) == 0 ? 40 : 8), to(60)); break;
            case "sieved":
                if (++sievings > 4) return true;
                args = row(to(5), 1 + to(7), 1 + to(2), to(1) * to(60), to(4) - 1);
                break;
            case "bowls":
                if (++swappings > 8) return true;
                args = row(told(), 1 + to(7), aTold());
                break;
            case "carpet": args = row(1 + to(to(5) == 0 ? 20 : 9), to(to(9) == 0 ? 2 : 1)); break;
            case "gust": args = row(to(19), to(7) - 3, to(9) == 0 ? to(41) : 1 + to(12), to(3)); break;
            case "worth": args = row(to(19), to(5), to(9) == 0 ? to(41) : 1 + to(12)); break;
            case "sold": args = row(to(19), to(9) == 0 ? to(41) : 1 + to(12), to(1)); break;
            case "shook": args = row(to(9), 1 + to(to(1) * 8), to(3) - 1); break;
            case "led": args = row(to(10) - 1, to(21) - 1); break;
            case "share": args = row(to(8), to(19), to(1)); break;
            case "odds":
                if (to(3) > 0) return true;
                args = row(1 + to(2), Math.max(0, twins.fast().count(4) + to(to(1) == 0 ? 400 : 40) - 2), to(2));
                break;
            case "seed": args = row(to(65536)); break;
            case "check": args = row(to(21)); break;
            case "count": args = row(to(5) == 0 ? 98 + to(103) : to(30)); break;
            default: return same(name);
        }
        if (to(15) == 0) args[to(args.length - 1)] = EDGES[random.nextInt(EDGES.length)];
        return same(name, args);
    }

    /** Mostly porters that are there, as many as may be asked for. */
    private int told() {
        int bits = to(511);
        return to(4) == 0 ? bits : bits & twins.fast().count(8);
    }

    private int aTold() {
        int p = to(10) - 1;
        return to(1) == 0 || (twins.fast().count(8) >> Math.max(p, 0) & 1) != 0 ? p : -1;
    }

    private static Object[] row(Object... args) {
        return args;
    }
}
