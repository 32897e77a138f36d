/** Boundaries of the searches: promises 14 to 19, and "of like ones" in the Terms. What is quoted is the document's. */
public final class SearchEdgesTest {
    private static final int NONE = DustMint.NONE;
    private static final Rig RIG = Rig.ofNumbers();
    private static final int SIX = 63;

    public static void main(String[] args) {
        sievedNumbers();
        sievedPlaces();
        sievedPrices();
        sievedLikeRows();
        sievedFree();
        sievedHours();
        bowlsNumbers();
        bowlsPorters();
        bowlsWhat();
        bowlsDone();
        bowlsLikeRows();
        lostOfAll();
        carpetNumbers();
        carpetLikeOnes();
        gustNumbers();
        gustLikeOnes();
        worthNumbers();
        worthEdges();
        soldNumbers();
        soldLikeOnes();
        Due.end();
    }

    /** sieved: "at most so many YARDS (1 to 3), a PRICE (0 to 999)"; "n HOURS (1 to 20)"; "NONE also: no such ones". */
    private static void sievedNumbers() {
        for (int what = NONE; what <= 3; what++) {
            int asked = what;
            for (int b : Rig.outside(0, 5)) RIG.unchanged("sieved by " + b, x -> x.sieved(b, 1, 1, 0, asked), NONE);
            for (int n : Rig.outside(1, 20)) RIG.unchanged("sieved n " + n, x -> x.sieved(1, n, 1, 0, asked), NONE);
            for (int most : Rig.outside(1, 3)) RIG.unchanged("sieved most " + most, x -> x.sieved(1, 1, most, 0, asked), NONE);
            for (int price : Rig.outside(0, 999)) RIG.unchanged("sieved at " + price, x -> x.sieved(1, 1, 1, price, asked), NONE);
        }
        for (int b : new int[] {0, 5}) RIG.asks("sieved by " + b, x -> x.sieved(b, 2, 3, 1, NONE));
        for (int n : new int[] {1, 20}) RIG.asks("sieved n " + n, x -> x.sieved(1, n, 2, 1, 3));
        for (int most : new int[] {1, 3}) RIG.asks("sieved most " + most, x -> x.sieved(1, 2, most, 1, 0));
        for (int price : new int[] {0, 999}) RIG.asks("sieved at " + price, x -> x.sieved(1, 2, 1, price, NONE));
    }

    /** "what NONE what it has more, less PRICES, 3 how many YARDS, else the YARD at place what; -2: no such place". */
    private static void sievedPlaces() {
        for (int what : Rig.outside(NONE, 3)) RIG.unchanged("sieved place " + what, x -> x.sieved(1, 2, 3, 0, what), -2);
        for (int size = 0; size <= 3; size++) {
            DustMint x = Due.mint("s9(1=1)");
            for (int i = 0; i < size; i++) x.yard(4 + 5 * i, 9, 0, false);
            Due.is("how many of " + size, x.sieved(0, 1, 3, 8, 3), size);
            Due.is("how much of " + size, x.sieved(0, 1, 3, 8, NONE), size);
            for (int place = 0; place <= 2; place++) Due.is("place " + place + " of " + size, x.sieved(0, 1, 3, 8, place), place < size ? 4 + 5 * place : -2);
            for (int most = 1; most <= 3; most++) {
                int many = Math.min(most, size);
                Due.is("at most " + most + " of " + size, x.sieved(0, 1, most, 8, 3), many);
                Due.is("the place behind them", x.sieved(0, 1, most, 8, many == 3 ? 4 : many), -2);
            }
        }
    }

    /** "of like ones of fewest YARDS; .. (no YARD more is one of them)": a price one less, as much, one more. */
    private static void sievedPrices() {
        DustMint x = Due.mint("s99(1=1)");
        x.yard(3, 50, 0, false);
        x.yard(8, 40, 0, false);
        x.yard(11, 60, 0, false);
        int[][] due = {
            // price, how much, how many, the yards
            {0, 150, 3, 3, 8, 11}, {39, 33, 3, 3, 8, 11}, {40, 30, 2, 3, 11, -2}, {41, 28, 2, 3, 11, -2}, {49, 12, 2, 3, 11, -2},
            {50, 10, 1, 11, -2, -2}, {51, 9, 1, 11, -2, -2}, {59, 1, 1, 11, -2, -2}, {60, 0, 0, -2, -2, -2}, {61, 0, 0, -2, -2, -2},
            {999, 0, 0, -2, -2, -2},
        };
        for (int[] d : due) {
            Due.is("how much at " + d[0], x.sieved(2, 1, 3, d[0], NONE), d[1]);
            Due.is("how many at " + d[0], x.sieved(2, 1, 3, d[0], 3), d[2]);
            for (int place = 0; place < 3; place++) Due.is("place " + place + " at " + d[0], x.sieved(2, 1, 3, d[0], place), d[3 + place]);
        }
        // "(by what LICENCES it has already, too)": they cost nothing more, and the purse before does not count.
        x.licence(11, 2);
        x.hour(0);
        x.yard(11, 60, 0, false);
        Due.is("a purse", x.count(12), 60);
        Due.is("what it has already", x.sieved(2, 1, 3, 999, NONE), 60);
        Due.is("none more", x.sieved(2, 1, 3, 999, 3), 0);
        Due.is("one more", x.sieved(2, 1, 3, 45, NONE), 65);
        Due.is("which", x.sieved(2, 1, 3, 45, 0), 3);
        // The greatest price that can pay: twenty hours of 99.
        x = Due.mint("s99(1=1)");
        x.yard(0, 1980, 0, false);
        Due.is("at 999", x.sieved(0, 20, 3, 999, NONE), 981);
        Due.is("at 999, ten hours", x.sieved(0, 10, 3, 999, NONE), 0);
        Due.is("at 999, eleven hours", x.sieved(0, 11, 3, 999, NONE), 90);
    }

    /** "of like ones the least row of YARDS". */
    private static void sievedLikeRows() {
        DustMint x = Due.mint("s5(1=1)");
        for (int y = 0; y < 20; y++) x.yard(y, 50, 0, false);
        for (int most = 1; most <= 3; most++) {
            for (int place = 0; place < most; place++) Due.is("of all the least", x.sieved(0, 2, most, 1, place), place);
        }
        x.licence(0, 1);
        x.licence(2, 1);
        for (int place = 0; place < 3; place++) Due.is("of the free ones", x.sieved(0, 2, 3, 1, place), place == 0 ? 1 : 2 + place);
        // The last ones of the hill.
        x = Due.mint("s5(y>16)");
        for (int y = 0; y < 20; y++) x.yard(y, 50, 0, false);
        for (int place = 0; place < 3; place++) Due.is("the last ones", x.sieved(0, 2, 3, 1, place), 17 + place);
        // One that gives most, and two others alike: 2 with 9, not 9 with 14.
        x = Due.mint("s99(1=1)");
        x.yard(9, 30, 0, false);
        x.yard(14, 20, 0, false);
        x.yard(2, 20, 0, false);
        Due.is("the lower one", x.sieved(0, 1, 2, 0, 0) * 100 + x.sieved(0, 1, 2, 0, 1), 209);
        // What is not sieved at 1 and 8 in hour 0 is moved to 2 and 9 in hour 1: {1, 8} is as {1, 9}, {2, 8}, {2, 9}.
        x = Due.mint("m99(t>0);s99(1=1)");
        x.yard(1, 20, 1, false);
        x.yard(8, 20, 1, false);
        Due.is("one of four alike", x.sieved(0, 2, 1, 0, 0) * 100 + x.sieved(0, 2, 1, 0, NONE), 120);
        for (int most = 2; most <= 3; most++) {
            Due.is("two of four alike", x.sieved(0, 2, most, 0, 0) * 100 + x.sieved(0, 2, most, 0, 1), 108);
            Due.is("no third one", x.sieved(0, 2, most, 0, 2), -2);
            Due.is("how many", x.sieved(0, 2, most, 0, 3), 2);
            Due.is("how much", x.sieved(0, 2, most, 7, NONE), 26);
        }
        x.licence(1, 5);
        Due.is("another one sieves at 1", x.sieved(0, 2, 3, 0, 0) * 100 + x.sieved(0, 2, 3, 0, 3), 801);
    }

    /** "1 to 3 YARDS (those without a LICENCE now)": with fewer free ones than may be, and with none. */
    private static void sievedFree() {
        for (int free = 0; free <= 4; free++) {
            DustMint x = Due.mint("s9(1=1)");
            for (int y = 0; y < 20; y++) {
                x.yard(y, 9, 0, false);
                if (y < 20 - free) x.licence(y, y % 5);
            }
            int many = Math.min(free, 3);
            Due.is("of " + free + " free ones", x.sieved(5, 1, 3, 0, 3), many);
            Due.is("of " + free + " free ones, how much", x.sieved(5, 1, 3, 0, NONE), 9 * many);
            for (int place = 0; place < 3; place++) Due.is("of " + free + ", place " + place, x.sieved(5, 1, 3, 0, place), place < many ? 20 - free + place : -2);
        }
    }

    /** "SIEVED by n HOURS (1 to 20)". */
    private static void sievedHours() {
        DustMint x = Due.mint("s1(1=1)");
        x.yard(19, 500, 0, false);
        for (int n = 1; n <= 20; n++) Due.is("in " + n, x.sieved(3, n, 1, 0, NONE), n);
        Due.is("in 21", x.sieved(3, 21, 1, 0, NONE), NONE);
    }

    private static DustMint carriers(String law, int... bowls) {
        DustMint x = Due.mint(law);
        for (int p = 0; p < bowls.length; p++) x.porter(p, p, bowls[p], 9, 0);
        return x;
    }

    /** bowls: "NONE also: no such ones (2 to 6)"; "n HOURS (1 to 20)". */
    private static void bowlsNumbers() {
        for (int what : new int[] {NONE, 3, 9}) {
            for (int n : Rig.outside(1, 20)) RIG.unchanged("bowls n " + n, x -> x.bowls(Rig.CLIMBERS, n, what), NONE);
            for (int porters : Rig.outside(0, 511)) RIG.unchanged("bowls of " + porters, x -> x.bowls(porters, 1, what), NONE);
            for (int bit : new int[] {9, 10, 16, 24, 30, 31}) {
                RIG.unchanged("bowls of a bit " + bit, x -> x.bowls(Rig.CLIMBERS | 1 << bit, 1, what), NONE);
            }
            RIG.unchanged("bowls of none", x -> x.bowls(0, 1, what), NONE);
        }
        for (int n : new int[] {1, 20}) for (int what : new int[] {NONE, 3, 8}) RIG.asks("bowls n " + n, x -> x.bowls(Rig.CLIMBERS, n, what));
        DustMint x = carriers("lp(1=1)", 90, 80, 70, 60, 50, 40, 30, 20, 10);
        for (int porters = 0; porters < 512; porters += 7) {
            int many = Integer.bitCount(porters);
            Due.is("bowls of " + porters, x.bowls(porters, 1, NONE) == NONE, many < 2 || many > 6);
        }
        for (int p = 0; p < 9; p++) Due.is("of one", x.bowls(1 << p, 1, NONE), NONE);
        int[] least = {3, 384, 63, 504, 127, 508, 511};
        for (int i = 0; i < least.length; i++) Due.is("bowls of " + least[i], x.bowls(least[i], 1, NONE) == NONE, i > 3);
    }

    /** "-2: one is not told, has arrived". */
    private static void bowlsPorters() {
        int[] wrong = {1 << 0, 1 << 1, 1 << 2, 1 << 4, 1 << 7};
        for (int one : wrong) {
            for (int what : new int[] {NONE, 3, 9}) {
                RIG.unchanged("bowls with " + one, x -> x.bowls(1 << 3 | one, 1, what), -2);
                RIG.unchanged("bowls of all with " + one, x -> x.bowls(Rig.CLIMBERS | one, 20, what), -2);
            }
        }
        RIG.unchanged("none of them is there", x -> x.bowls(6, 1, NONE), -2);
        RIG.unchanged("the wrong one itself is asked for", x -> x.bowls(9, 1, 0), -2);
        // At 19 it has not arrived.
        DustMint x = new DustMint();
        x.porter(0, 19, 5, 0, 0);
        x.porter(1, 19, 6, 1, 0);
        Due.is("at 19", x.bowls(3, 1, NONE), 0);
        x.hour(0);
        Due.is("arrived", x.bowls(3, 1, NONE), -2);
    }

    /** "else whose BOWL PORTER what gets"; "NONE also: .. PORTER what is none of them". */
    private static void bowlsWhat() {
        for (int what : Rig.outside(NONE, 9)) RIG.unchanged("bowls what " + what, x -> x.bowls(Rig.CLIMBERS, 1, what), NONE);
        for (int what : new int[] {0, 1, 2, 4, 7}) RIG.unchanged("bowls, not of them " + what, x -> x.bowls(Rig.CLIMBERS, 1, what), NONE);
        RIG.unchanged("there, but not of them", x -> x.bowls(1 << 3 | 1 << 5, 1, 8), NONE);
        DustMint x = carriers("lg/10(p=0);lg/20(p=1);l0(1=1)", 50, 80, 90);
        int[] whose = {0, 1, 2};
        // 50 cost porter 0 five, 80 cost porter 1 four: no two others cost less.
        Due.is("least", x.bowls(7, 1, NONE), 9);
        for (int p = 0; p < 3; p++) Due.is("whose to " + p, x.bowls(7, 1, p), whose[p]);
    }

    /** "9 as NONE, and it is done": only the bowls are others. */
    private static void bowlsDone() {
        int due = RIG.made().bowls(Rig.CLIMBERS, 5, NONE);
        DustMint asked = RIG.made();
        Object[] told = new Object[16];
        int at = 0;
        for (int p : new int[] {3, 5, 6, 8}) {
            int bowl = RIG.was("porterIs " + asked.bowls(Rig.CLIMBERS, 5, p) + " 1");
            told[at++] = "porterIs " + p + " 1";
            told[at++] = bowl;
            told[at++] = "porterIs " + p + " 4";
            told[at++] = Math.min(bowl, RIG.was("yardIs " + RIG.was("porterIs " + p + " 0") + " 0") < 500 ? 3 + RIG.was("porterIs " + p + " 2") + p : 1);
        }
        RIG.changes("bowls done", x -> x.bowls(Rig.CLIMBERS, 5, 9), due, told);
        DustMint x = RIG.made();
        x.bowls(Rig.CLIMBERS, 5, 9);
        Due.is("so it comes", x.hours(5), due);
        x = RIG.made();
        x.bowls(Rig.CLIMBERS, 5, 9);
        x.undo();
        DustMint other = RIG.made();
        other.undo();
        Rig.same("what was kept is as it was", Rig.seen(x), Rig.seen(other));
    }

    /** "of like ones the least row (whose BOWL the first told one gets, the next, ..; as PORTERS' numbers)". */
    private static void bowlsLikeRows() {
        DustMint x = carriers("l1(1=1)", 10, 20, 30, 40, 50, 60);
        for (int p = 0; p < 6; p++) Due.is("all alike: its own, " + p, x.bowls(SIX, 3, p), p);
        // Porter 0 must not have its own bowl: of the rows 1.., 2.. the least is 1 0 2.
        x = carriers("l1(p=0&g=10)", 10, 20, 30);
        int[] due = {1, 0, 2};
        for (int p = 0; p < 3; p++) Due.is("not its own, " + p, x.bowls(7, 1, p), due[p]);
        // The last one must not have its own: 0 2 1 is the least.
        x = carriers("l1(p=2&g=30)", 10, 20, 30);
        due = new int[] {0, 2, 1};
        for (int p = 0; p < 3; p++) Due.is("the last not its own, " + p, x.bowls(7, 1, p), due[p]);
        // None may have its own: 1 2 0 and 2 0 1 are alike.
        x = carriers("l1(g=p*10+10)", 10, 20, 30);
        due = new int[] {1, 2, 0};
        for (int p = 0; p < 3; p++) Due.is("none its own, " + p, x.bowls(7, 1, p), due[p]);
        // Only 2 0 1 fits: porter 0 gets the bowl of 2, not 2 that of 0.
        x = carriers("l0(p=0&g=30|p=1&g=10|p=2&g=20);l1(1=1)", 10, 20, 30);
        due = new int[] {2, 0, 1};
        for (int p = 0; p < 3; p++) Due.is("one row fits, " + p, x.bowls(7, 1, p), due[p]);
        Due.is("it is done", x.bowls(7, 1, 9), 0);
        for (int p = 0; p < 3; p++) Due.is("bowl of " + p, x.porterIs(p, 1), 10 * due[p] + 10);
        // Only the greatest row of all fits.
        x = carriers("l0(g=60-p*10);l1(1=1)", 10, 20, 30, 40, 50, 60);
        for (int p = 0; p < 6; p++) Due.is("the greatest row, " + p, x.bowls(SIX, 1, p), 5 - p);
        // Bowls alike: whose it is still matters for the row, the least keeps its own.
        x = carriers("l1(1=1)", 50, 50, 50);
        for (int p = 0; p < 3; p++) Due.is("bowls alike, " + p, x.bowls(7, 1, p), p);
        // Told porters are not 0, 1, ..: the row is of their numbers.
        x = new DustMint();
        Due.law(x, "l1(p=4&g=10)");
        for (int p : new int[] {4, 6, 8}) x.porter(p, p, p == 4 ? 10 : 20, 9, 0);
        int bits = 1 << 4 | 1 << 6 | 1 << 8;
        Due.is("4 gets", x.bowls(bits, 1, 4), 6);
        Due.is("6 gets", x.bowls(bits, 1, 6), 4);
        Due.is("8 gets", x.bowls(bits, 1, 8), 8);
    }

    /** "least is lost (by l, of all PORTERS)": also of those whose bowls stay, and by dust that wind and beggars move. */
    private static void lostOfAll() {
        // Porter 2 loses by the dust of yard 0, which porter 0 leaves there; only 0 and 1 change.
        DustMint x = Due.mint("lg/10(p<2);ld(1=1)");
        x.porter(0, 0, 90, 9, 0);
        x.porter(1, 1, 50, 9, 0);
        x.porter(2, 0, 999, 9, 0);
        Due.is("of all", x.bowls(3, 1, NONE), 5 + 9 + 5);
        Due.is("the smaller one to 0", x.bowls(3, 1, 0), 1);
        // In the second hour what the wind has brought to yard 3 costs a tenth more there.
        x = Due.mint("lg/10(d>50);l0(1=1);m60(1=1)");
        x.yard(2, 60, 1, false);
        x.porter(4, 3, 500, 9, 0);
        x.porter(5, 9, 100, 9, 0);
        Due.is("not yet", x.bowls(48, 1, NONE), 0);
        Due.is("its own", x.bowls(48, 1, 4), 4);
        Due.is("then", x.bowls(48, 2, NONE), 10);
        Due.is("the other one's", x.bowls(48, 2, 4), 5);
        // A carpet at 2 keeps the dust there: then nothing is lost at 3.
        x = Due.mint("l9(d>50);m60(c=0)");
        x.yard(2, 60, 1, false);
        x.porter(4, 3, 500, 9, 0);
        Due.is("not yet", x.carpet(1, 0) * 100 + x.carpet(1, 1), 0);
        Due.is("at 2", x.carpet(2, 0) * 100 + x.carpet(2, 1), 200);
    }

    /** carpet: "what 0 the YARD, 1 how much is lost; -2: all have one; NONE: no such ones (n 1 to 20)." */
    private static void carpetNumbers() {
        for (int what = 0; what <= 1; what++) {
            int asked = what;
            for (int n : Rig.outside(1, 20)) RIG.unchanged("carpet n " + n, x -> x.carpet(n, asked), NONE);
            for (int n : new int[] {1, 20}) RIG.asks("carpet n " + n, x -> x.carpet(n, asked));
        }
        for (int what : Rig.outside(0, 1)) RIG.unchanged("carpet what " + what, x -> x.carpet(1, what), NONE);
        for (int free = -1; free < 20; free++) {
            DustMint x = Due.mint("l3-c(1=1)");
            x.porter(0, 0, 100, 0, 0);
            for (int y = 0; y < 20; y++) x.yard(y, 0, 0, y != free);
            Due.is("without one: " + free, x.carpet(20, 0), free < 0 ? -2 : free);
            Due.is("without one: " + free + ", lost", x.carpet(20, 1), free < 0 ? -2 : 40);
            Due.is("no such n", x.carpet(21, 0), NONE);
            Due.is("no such what", x.carpet(20, 2), NONE);
        }
    }

    /** "the YARD without one by whose CARPET least is lost ..: of like ones the lowest". */
    private static void carpetLikeOnes() {
        DustMint x = Due.mint("l3-c(y>4);l5(1=1)");
        x.porter(0, 3, 100, 0, 0);
        // In hours 2 and on it is at 5, 6, ..: a carpet saves one grain at one of them.
        Due.is("none helps: the lowest", x.carpet(2, 0), 0);
        Due.is("none helps", x.carpet(2, 1), 10);
        Due.is("5 helps", x.carpet(3, 0), 5);
        Due.is("of like ones 5", x.carpet(4, 0), 5);
        Due.is("lost", x.carpet(4, 1), 15);
        x.yard(5, 0, 0, true);
        Due.is("of like ones 6", x.carpet(5, 0), 6);
        x.yard(0, 0, 0, true);
        x.yard(1, 0, 0, true);
        Due.is("none helps: the lowest without", x.carpet(2, 0), 2);
        // Where a carpet does harm, another yard's is best, and if there is no other, it is that one.
        x = Due.mint("l1+c*9(1=1)");
        x.porter(0, 0, 100, 9, 0);
        Due.is("not where it harms", x.carpet(1, 0) * 100 + x.carpet(1, 1), 101);
        for (int y = 1; y < 20; y++) x.yard(y, 0, 0, true);
        Due.is("there is no other", x.carpet(1, 0) * 100 + x.carpet(1, 1), 10);
    }

    /** gust: "what 0 the differences together, 1 the YARD .., 2 how much ..; NONE: no such ones (n 1 to 40)." */
    private static void gustNumbers() {
        for (int what = 0; what <= 2; what++) {
            int asked = what;
            for (int y : Rig.outside(0, 19)) RIG.unchanged("gust at " + y, x -> x.gust(y, 1, 1, asked), NONE);
            for (int wind : Rig.outside(-3, 3)) RIG.unchanged("gust of " + wind, x -> x.gust(4, wind, 1, asked), NONE);
            for (int n : Rig.outside(1, 40)) RIG.unchanged("gust n " + n, x -> x.gust(4, 1, n, asked), NONE);
            for (int y : new int[] {0, 19}) for (int wind : new int[] {-3, 3}) for (int n : new int[] {1, 40}) {
                RIG.asks("gust " + y + " " + wind + " " + n, x -> x.gust(y, wind, n, asked));
            }
        }
        for (int what : Rig.outside(0, 2)) RIG.unchanged("gust what " + what, x -> x.gust(4, 1, 1, what), NONE);
    }

    private static void gusts(DustMint x, int y, int wind, int n, int... due) {
        for (int what = 0; what < 3; what++) Due.is("gust " + y + " " + wind + " " + n + ", " + what, x.gust(y, wind, n, what), due[what]);
    }

    /** "1 the YARD that gains most (-2: none), 2 how much it gains (0)"; "(of like ones the lowest)". */
    private static void gustLikeOnes() {
        DustMint x = Due.mint("m1(1=1)");
        x.yard(0, 90, 0, false);
        x.yard(19, 90, 0, false);
        x.yard(10, 90, 2, false);
        gusts(x, 0, -1, 40, 40, -2, 0);
        gusts(x, 19, 1, 40, 40, -2, 0);
        gusts(x, 0, 1, 40, 80, 1, 40);
        gusts(x, 19, -3, 1, 2, 18, 1);
        gusts(x, 0, 0, 40, 0, -2, 0);
        gusts(x, 10, 2, 40, 0, -2, 0);
        gusts(x, 10, 1, 40, 0, -2, 0);
        gusts(x, 10, -1, 1, 2, 9, 1);
        gusts(x, 10, 0, 1, 2, 10, 1);
        gusts(x, 5, 3, 40, 0, -2, 0);
        // Two gain alike, the upper one by what a porter loses there.
        x = Due.mint("l8(w<0&n=1);m4(1=1)");
        x.yard(7, 0, 0, false);
        x.porter(0, 7, 100, 9, 0);
        gusts(x, 7, -1, 1, 8, 6, 4);
        gusts(x, 7, -1, 2, 16, 6, 8);
        gusts(x, 7, 1, 1, 0, -2, 0);
        // Without sign: 4 less at one yard and 4 more at another are 8.
        x = Due.mint("m4(1=1)");
        x.yard(7, 4, 0, false);
        gusts(x, 7, 1, 1, 8, 8, 4);
        gusts(x, 7, 1, 40, 8, 8, 4);
    }

    /** worth: "(n 1 to 40); NONE: no such ones." */
    private static void worthNumbers() {
        for (int y : Rig.outside(0, 19)) RIG.unchanged("worth of " + y, x -> x.worth(y, 1, 1), NONE);
        for (int b : Rig.outside(0, 5)) RIG.unchanged("worth to " + b, x -> x.worth(4, b, 1), NONE);
        for (int n : Rig.outside(1, 40)) RIG.unchanged("worth in " + n, x -> x.worth(4, 1, n), NONE);
        for (int y : new int[] {0, 4, 19}) for (int b : new int[] {0, 5}) for (int n : new int[] {1, 40}) {
            RIG.asks("worth " + y + " " + b + " " + n, x -> x.worth(y, b, n));
        }
    }

    /** "what would be in its PURSE more behind n HOURS by a LICENCE for it (as if nobody had one for it now)". */
    private static void worthEdges() {
        DustMint x = Due.mint("s5+b(1=1)");
        x.yard(0, 7, 0, false);
        x.yard(19, 99999, 0, false);
        x.licence(19, 5);
        x.hour(0);
        Due.is("a purse", x.count(15), 10);
        Due.is("as if nobody had it, to who has it", x.worth(19, 5, 1), 10);
        Due.is("as if nobody had it, to another", x.worth(19, 0, 1), 5);
        Due.is("40 hours", x.worth(19, 5, 40), 400);
        Due.is("as much as is there", x.worth(0, 0, 1) * 100 + x.worth(0, 0, 2), 507);
        Due.is("no more", x.worth(0, 5, 40), 7);
        Due.is("nothing there", x.worth(1, 5, 40), 0);
        Due.is("by no law", new DustMint().worth(0, 0, 40), 0);
    }

    /** sold: "what 0 to whom, 1 for how much; NONE: no such ones (n 1 to 40)." */
    private static void soldNumbers() {
        for (int what = 0; what <= 1; what++) {
            int asked = what;
            for (int y : Rig.outside(0, 19)) RIG.unchanged("sold " + y, x -> x.sold(y, 1, asked), NONE);
            for (int n : Rig.outside(1, 40)) RIG.unchanged("sold in " + n, x -> x.sold(4, n, asked), NONE);
            for (int y : new int[] {0, 4, 19}) for (int n : new int[] {1, 40}) RIG.asks("sold " + y + " " + n, x -> x.sold(y, n, asked));
        }
        for (int what : Rig.outside(0, 1)) RIG.unchanged("sold what " + what, x -> x.sold(4, 1, what), NONE);
    }

    /** "to the BEGGAR to whom it is worth most (of like ones the lowest), for .. (the greatest of the others)". */
    private static void soldLikeOnes() {
        for (int first = 0; first < 6; first++) {
            for (int next = 0; next < 6; next++) {
                DustMint x = Due.mint("sq(1=1)");
                x.yard(7, 999, 0, false);
                for (int b = 0; b < 6; b++) x.skill(b, b == first ? 8 : b == next ? 7 : 2);
                Due.is("most to " + first, x.sold(7, 3, 0), first);
                Due.is("the next is " + next, x.sold(7, 3, 1), next == first ? 6 : 21);
                x.skill(next, 8);
                Due.is("alike, the lowest", x.sold(7, 3, 0), Math.min(first, next));
                Due.is("alike, for as much", x.sold(7, 3, 1), next == first ? 6 : 24);
            }
        }
        DustMint x = Due.mint("sq(1=1)");
        Due.is("worth nothing: the lowest", x.sold(7, 1, 0), 0);
        Due.is("for nothing", x.sold(7, 1, 1), 0);
        // Less than nothing to one is below nothing to the others: it costs that one what it has above.
        x = Due.mint("m5(y=2&d>4|y=3);s1(y=2);s9(y=4)");
        x.yard(2, 10, 1, false);
        x.yard(3, 0, 1, false);
        x.licence(4, 0);
        Due.is("less than nothing", x.worth(2, 0, 3), -2);
        Due.is("to the next", x.sold(2, 3, 0), 1);
        Due.is("for as much as to a third", x.sold(2, 3, 1), x.worth(2, 2, 3));
    }
}
