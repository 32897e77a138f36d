import java.util.Random;

/** Hills full of dust, porters and wind, so that the searches have much to weigh. Arguments: first run, runs. */
public final class SearchTest {
    private static final int RUNS = 40;
    private final Random random;
    private final Twins twins = new Twins();

    private SearchTest(long seed) {
        random = new Random(seed);
    }

    public static void main(String[] args) throws Exception {
        long first = args.length > 0 ? Long.parseLong(args[0]) : 1;
        long runs = args.length > 1 ? Long.parseLong(args[1]) : RUNS;
        for (long seed = first; seed < first + runs; seed++) {
            SearchTest test = new SearchTest(seed);
            boolean right = test.setUp() && test.search();
            if (args.length > 2 || !right) test.twins.tell(seed);
            if (!right) System.exit(1);
        }
        System.out.println(runs + " runs as due");
    }

    private int to(int n) {
        return random.nextInt(n + 1);
    }

    private boolean setUp() throws Exception {
        boolean right = twins.lawBy(law()) && twins.same("seed", to(65535));
        int full = to(3);
        for (int y = 0; y < 20; y++) {
            int dust = to(3) > full ? 0 : to(6) == 0 ? 99960 + to(39) : to(to(1) == 0 ? 30 : 150);
            right &= twins.same("yard", y, dust, to(2) == 0 ? 0 : to(6) - 3, to(2) == 0);
            if (to(4) == 0) right &= twins.same("licence", y, to(5));
        }
        for (int p = 0; p < 9; p++) {
            if (to(6) > 0) right &= twins.same("porter", p, to(19), to(to(1) == 0 ? 60 : 900), to(to(9)), to(9));
        }
        for (int b = 0; b < 6; b++) right &= twins.same("skill", b, to(9));
        for (int h = 0; h < 30; h++) right &= twins.same("rain", h, to(9));
        if (to(2) == 0) right &= twins.same("hours", 1 + to(30));
        return right && twins.same("keep");
    }

    /** Laws by which sieving one yard may change what another one gives. */
    private String law() {
        String[] spills = {"l9-d/9-c*3(1=1)", "l5+n*2(d<40);l30(c=0)", "lg/9+z*9(d%2=0);l3+i(1=1)", "l12-c*5+p(y%3>0)",
            "l9+z*9+i*3-c*7(1=1)", "l60/[d-4](1=1)"};
        String[] blows = {"m5+d/9(1=1)", "m40-d(d<40);m2+w*w(1=1)", "md/2(!c=1)", "m9(t%3>0)"};
        String[] washes = {"k1(r>5)", "kd/9(y%4=1)", "k3(d>50|r=0)", "k0(1=1)"};
        String[] sieves = {"s2+q(1=1)", "s30-d(d<30);s1(d>90)", "sq*3-d/4+b(y%5>0)", "s9(d%3=0&q>2)", "s99/[d-9](d>3)"};
        String text = spills[to(5)] + ";" + blows[to(3)] + ";" + washes[to(3)] + ";" + sieves[to(4)];
        return to(4) == 0 ? new Texts(random).tame() : text;
    }

    private boolean search() throws Exception {
        boolean right = true;
        int beggar = to(5);
        int n = 1 + to(4);
        int most = 1 + to(2);
        int price = to(1) * to(40);
        for (int what = -1; what <= 4; what++) right &= most == 3 && what > 0 && what != 3 || twins.same("sieved", beggar, n, most, price, what);
        int told = twins.fast().count(8);
        for (int p = 0; p < 9; p++) {
            boolean leave = twins.fast().porterIs(p, 0) == 20 || Integer.bitCount(told) > 5 || to(3) == 0;
            if (leave && Integer.bitCount(told) > 2) told &= ~(1 << p);
        }
        n = 1 + to(6);
        for (int what = -1; what <= 9; what++) right &= to(2) > 0 || twins.same("bowls", told, n, what);
        right &= twins.same("carpet", n, 0) && twins.same("carpet", n, 1);
        for (int i = 0; i < 8; i++) {
            int y = to(19);
            n = 1 + to(19);
            int wind = to(6) - 3;
            for (int what = 0; what < 3; what++) right &= twins.same("gust", y, wind, n, what);
            right &= twins.same("sold", y, n, 0) && twins.same("sold", y, n, 1) && twins.same("worth", y, to(5), n);
        }
        n = 1 + to(1) * to(2);
        for (int i = 0; i < 4; i++) right &= twins.same("odds", n, twins.fast().count(4) + to(500), to(1));
        return right && shake() && twins.same("hours", 40) && twins.same("undo") && shares();
    }

    /** What a porter will lose, and near it. */
    private boolean shake() throws Exception {
        boolean right = true;
        for (int p = 0; p < 9; p++) {
            int n = 1 + to(7);
            byte[] lost = new byte[n];
            right &= twins.same("keep");
            for (int h = 0; h < n; h++) {
                int before = twins.fast().led(p, -1);
                right &= twins.same("hours", 1);
                lost[h] = (byte) (twins.fast().led(p, -1) - before);
            }
            if (to(3) == 0) lost[to(n - 1)] += to(9);
            right &= twins.same("undo");
            for (int what = -1; what < 2; what++) {
                right &= twins.emptied() && twins.feedBytes(lost) && twins.same("shook", p, n, what);
            }
        }
        return right;
    }

    private boolean shares() throws Exception {
        boolean right = true;
        for (int p = 0; p < 9; p++) {
            int y = to(19);
            right &= twins.same("led", p, y) && twins.same("share", p, y, 0) && twins.same("share", p, y, 1);
        }
        return right;
    }
}
