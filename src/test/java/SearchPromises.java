/** The second half of PromiseTest: promises 14 to 28. */
final class SearchPromises {
    private static final int NONE = DustMint.NONE;
    private static final int LEAST = Integer.MIN_VALUE;
    private static final int MOST = Integer.MAX_VALUE;

    static void all() {
        sieved();
        bowls();
        carpet();
        gust();
        worth();
        sold();
        shook();
        led();
        share();
        odds();
        seed();
        keep();
        check();
        count();
    }

    private static void sieved() {
        DustMint x = Due.mint("s5(1=1)");
        x.yard(2, 5, 0, false);
        x.yard(5, 10, 0, false);
        x.yard(9, 10, 0, false);
        x.yard(17, 99, 0, false);
        x.licence(17, 4);
        // In two hours: 5 from yard 2, 10 from yards 5 and 9 each.
        int[][] due = {
            // most, price, gain, size, first, second, third
            {1, 0, 10, 1, 5, -2, -2}, {2, 0, 20, 2, 5, 9, -2}, {3, 0, 25, 3, 2, 5, 9},
            {3, 5, 10, 2, 5, 9, -2}, {3, 4, 13, 3, 2, 5, 9}, {3, 10, 0, 0, -2, -2, -2}, {2, 9, 2, 2, 5, 9, -2}, {3, 999, 0, 0, -2, -2, -2},
        };
        for (int[] d : due) {
            String which = "sieved at most " + d[0] + " at " + d[1];
            Due.is(which, x.sieved(1, 2, d[0], d[1], NONE), d[2]);
            Due.is(which + ", yards", x.sieved(1, 2, d[0], d[1], 3), d[3]);
            for (int place = 0; place < 3; place++) Due.is(which + " " + place, x.sieved(1, 2, d[0], d[1], place), d[4 + place]);
        }
        Due.is("with what it has", x.sieved(4, 2, 1, 0, NONE), 20);
        Due.is("with what it has, none more", x.sieved(4, 2, 1, 10, NONE), 10);
        Due.is("none more", x.sieved(4, 2, 1, 10, 3), 0);
        Due.is("no such place", x.sieved(1, 2, 3, 0, 4), -2);
        for (int b : new int[] {-1, 6, LEAST, MOST}) Due.is("beggar " + b, x.sieved(b, 2, 1, 0, NONE), NONE);
        for (int n : new int[] {0, 21, LEAST, MOST}) Due.is("n " + n, x.sieved(1, n, 1, 0, NONE), NONE);
        for (int most : new int[] {0, 4, LEAST, MOST}) Due.is("most " + most, x.sieved(1, 2, most, 0, NONE), NONE);
        for (int price : new int[] {-1, 1000, LEAST, MOST}) Due.is("price " + price, x.sieved(1, 2, 1, price, NONE), NONE);
        Due.is("nothing is changed", x.count(0) + x.count(11) + x.count(14), 0);
        Due.is("no licence is given", x.yardIs(5, 3), 6);
        for (int y = 0; y < 20; y++) x.licence(y, 4);
        Due.is("all have one", x.sieved(1, 20, 3, 0, 3), 0);
        Due.is("all have one", x.sieved(1, 20, 3, 0, NONE), 0);
        Due.is("all are its own", x.sieved(4, 1, 3, 0, NONE), 20);
        // Sieving yard 4 lets the wind move what is left there to yard 5, where nothing was to be got.
        x = Due.mint("m5(y=4&d<9);s6(y=4&d=9);s9(y=5)");
        x.yard(4, 9, 1, false);
        Due.is("one alone", x.sieved(0, 2, 1, 0, NONE), 6);
        Due.is("the other one beside it", x.sieved(0, 2, 2, 0, NONE), 9);
        Due.is("the other one", x.sieved(0, 2, 3, 0, 1), 5);
        sievedRows();
    }

    /** Each row of one, two or three yards may be the best one. */
    private static void sievedRows() {
        DustMint x = Due.mint("s99(1=1)");
        for (int a = 0; a < 20; a++) {
            for (int b = a; b < 20; b++) {
                for (int c = b; c < 20; c += a == b || b == c ? 1 : 1 + (a + b) % 3) {
                    if (a == b && b != c) continue;
                    x = Due.mint("s99(1=1)");
                    x.yard(a, 90, 0, false);
                    x.yard(b, 90, 0, false);
                    x.yard(c, 90, 0, false);
                    int size = a == b ? 1 : b == c ? 2 : 3;
                    String row = "sieved " + a + " " + b + " " + c;
                    Due.is(row, x.sieved(5, 1, 3, 80, NONE), 10 * size);
                    Due.is(row, x.sieved(5, 1, 3, 80, 0), a);
                    Due.is(row, x.sieved(5, 1, 3, 80, 1), size > 1 ? b : -2);
                    Due.is(row, x.sieved(5, 1, 3, 80, 2), size > 2 ? c : -2);
                }
            }
        }
        // A purse that is not empty: only what it has more counts.
        x = Due.mint("s99(1=1)");
        x.yard(19, 70, 0, false);
        x.licence(19, 5);
        x.hour(0);
        x.yard(18, 50, 0, false);
        Due.is("only what is more", x.sieved(5, 2, 1, 20, NONE), 30);
    }

    private static void bowls() {
        DustMint x = Due.mint("lg/10(y=3);lg/5(y=4);l0(1=1)");
        x.porter(1, 4, 100, 0, 0);
        x.porter(4, 3, 50, 0, 0);
        x.porter(6, 9, 10, 0, 0);
        // Yard 4 costs a fifth, yard 3 a tenth (and then a fifth of the rest): best 10 at 3, 50 at 4.
        int bits = 1 << 1 | 1 << 4 | 1 << 6;
        // 10 to porter 1: 2; 50 to porter 4: 5; 100 to porter 6: 0. 50 to 1: 10; 10 to 4: 1.
        Due.is("least", x.bowls(bits, 1, NONE), 7);
        Due.is("to 1", x.bowls(bits, 1, 1), 6);
        Due.is("to 4", x.bowls(bits, 1, 4), 4);
        Due.is("to 6", x.bowls(bits, 1, 6), 1);
        // In two hours porter 4 loses at 3 and at 4: 50 to it are 5 and 9, 10 are 1 and 1.
        Due.is("least in two", x.bowls(bits, 2, NONE), 12);
        Due.is("to 1 in two", x.bowls(bits, 2, 1), 4);
        Due.is("of two only", x.bowls(1 << 1 | 1 << 4, 1, NONE), 20);
        Due.is("of two only, whose", x.bowls(1 << 1 | 1 << 4, 1, 1), 4);
        for (int what : new int[] {0, 2, 8, 10, -2, 33, LEAST, MOST}) Due.is("what " + what, x.bowls(bits, 1, what), NONE);
        for (int n : new int[] {0, 21, LEAST, MOST}) Due.is("n " + n, x.bowls(bits, n, NONE), NONE);
        for (int p : new int[] {0, 1, 127, 511, 512, 513, 514, 515, -1, LEAST, LEAST | 3, MOST}) Due.is("porters " + p, x.bowls(p, 1, NONE), NONE);
        Due.is("not told", x.bowls(3, 1, NONE), -2);
        Due.is("not told, of one", x.bowls(3, 1, 1), -2);
        Due.is("not told, of one that is none of them", x.bowls(3, 1, 5), NONE);
        Due.is("not told, to be done", x.bowls(3, 1, 9), -2);
        Due.is("nothing is done", x.porterIs(1, 1), 100);
        Due.is("done", x.bowls(bits, 1, 9), 7);
        Due.is("1 has 10", x.porterIs(1, 1), 10);
        Due.is("4 has 50", x.porterIs(4, 1), 50);
        Due.is("6 has 100", x.porterIs(6, 1), 100);
        Due.is("no hour", x.count(0), 0);
        Due.is("so it comes", x.hours(1), 7);
        x.porter(0, 19, 5, 0, 0);
        x.hour(0);
        Due.is("arrived", x.bowls(1 | bits, 1, NONE), -2);
        // Six, all alike: the least row.
        x = Due.mint("l1(1=1)");
        for (int p = 3; p < 9; p++) x.porter(p, p, 100 + p, 0, 0);
        Due.is("six", x.bowls(0x1f8, 20, NONE) > 0, true);
        for (int p = 3; p < 9; p++) Due.is("its own", x.bowls(0x1f8, 2, p), p);
        // The losses of the others count, too: the bowls of 0 and 1 change what porter 2 loses by dust.
        x = Due.mint("lg/10(y<9);ld(1=1)");
        x.porter(0, 8, 50, 0, 0);
        x.porter(1, 12, 90, 9, 0);
        x.porter(2, 8, 999, 9, 0);
        Due.is("of all", x.bowls(3, 1, NONE), 5 + 99);
        bowlRows(new int[6], 0, 0);
    }

    /** Each row of six bowls may be the best one: a porter loses nothing of a bowl whose last digit is its number. */
    private static void bowlRows(int[] row, int size, int used) {
        for (int p = 0; p < 6; p++) {
            if ((used >> p & 1) != 0) continue;
            row[size] = p;
            if (size < 5) {
                bowlRows(row, size + 1, used | 1 << p);
                continue;
            }
            DustMint x = Due.mint("l0(g%10=p);l1(1=1)");
            for (int i = 0; i < 6; i++) x.porter(i, i, 50 + row[i], 0, 0);
            Due.is("nothing is lost", x.bowls(63, 1, 9), 0);
            for (int i = 0; i < 6; i++) Due.is("bowl of " + i, x.porterIs(i, 1), 50 + i);
        }
    }

    private static void carpet() {
        DustMint x = Due.mint("l9-c*4(y<6);l20-c*3(1=1)");
        x.porter(0, 5, 100, 0, 0);
        Due.is("where", x.carpet(1, 0), 5);
        Due.is("how much", x.carpet(1, 1), 5);
        Due.is("where in two", x.carpet(2, 0), 5);
        Due.is("how much in two", x.carpet(2, 1), 25);
        x.yard(5, 0, 0, true);
        Due.is("where else", x.carpet(2, 0), 6);
        Due.is("how much else", x.carpet(2, 1), 22);
        Due.is("of like ones the lowest", x.carpet(1, 0), 0);
        for (int n : new int[] {0, -1, 21, LEAST, MOST}) Due.is("n " + n, x.carpet(n, 0), NONE);
        for (int what : new int[] {-1, 2, LEAST, MOST}) Due.is("what " + what, x.carpet(1, what), NONE);
        Due.is("none is laid", x.yardIs(6, 2), 0);
        for (int y = 0; y < 20; y++) x.yard(y, 0, 0, true);
        Due.is("all have one", x.carpet(1, 0), -2);
        Due.is("all have one", x.carpet(20, 1), -2);
        x.yard(19, 0, 0, false);
        Due.is("only one has none", x.carpet(20, 0), 19);
        // Without a porter nothing is lost.
        Due.is("nothing is lost", new DustMint().carpet(20, 1), 0);
    }

    private static void gust() {
        DustMint x = Due.mint("m4(1=1)");
        x.yard(0, 50, 0, false);
        x.yard(7, 30, 1, false);
        // As it is, yard 8 gets 4 an hour; with a wind down yard 6 does.
        Due.is("differences", x.gust(7, -2, 3, 0), 24);
        Due.is("who gains", x.gust(7, -2, 3, 1), 6);
        Due.is("how much", x.gust(7, -2, 3, 2), 12);
        Due.is("no wind: it stays", x.gust(7, 0, 3, 1), 7);
        Due.is("beyond the foot", x.gust(0, -1, 3, 0), 12);
        Due.is("nobody gains", x.gust(0, -1, 3, 1), -2);
        Due.is("nothing is gained", x.gust(0, -1, 3, 2), 0);
        Due.is("the same wind's way", x.gust(7, 3, 40, 0), 0);
        x.yard(12, 8, 1, false);
        x.yard(13, 0, 1, false);
        Due.is("a yard without dust", x.gust(2, 1, 1, 0), 0);
        for (int y : new int[] {-1, 20, LEAST, MOST}) Due.is("yard " + y, x.gust(y, 1, 1, 0), NONE);
        for (int w : new int[] {-4, 4, LEAST, MOST}) Due.is("wind " + w, x.gust(7, w, 1, 0), NONE);
        for (int n : new int[] {0, 41, LEAST, MOST}) Due.is("n " + n, x.gust(7, 1, n, 0), NONE);
        for (int what : new int[] {-1, 3, LEAST, MOST}) Due.is("what " + what, x.gust(7, 1, 1, what), NONE);
        Due.is("the wind stays", x.yardIs(7, 1), 1);
        Due.is("the dust stays", x.yardIs(7, 0), 30);
        // Two gain alike: the lowest.
        x = Due.mint("l6(y=3&w>0);m3(1=1)");
        x.yard(3, 0, 0, false);
        x.porter(0, 3, 100, 9, 0);
        Due.is("two gain alike", x.gust(3, 1, 1, 1), 3);
        Due.is("as much", x.gust(3, 1, 1, 2), 3);
        Due.is("together", x.gust(3, 1, 1, 0), 6);
    }

    private static void worth() {
        DustMint x = Due.mint("m5(y=3);s2+q(1=1)");
        x.yard(7, 30, 0, false);
        x.skill(2, 3);
        Due.is("worth", x.worth(7, 2, 4), 20);
        Due.is("worth less", x.worth(7, 0, 4), 8);
        Due.is("no more than is there", x.worth(7, 2, 40), 30);
        Due.is("nothing", x.worth(8, 2, 40), 0);
        x.licence(7, 0);
        Due.is("as if nobody had it", x.worth(7, 2, 4), 20);
        Due.is("to who has it", x.worth(7, 0, 4), 8);
        // What is sieved here does not come there: worth less than nothing.
        x = Due.mint("m5(y=3);s1(y=3);s5(y=4)");
        x.yard(3, 5, 1, false);
        x.licence(4, 1);
        x.hour(0);
        x.yard(3, 6, 1, false);
        Due.is("worth nothing more", x.worth(3, 1, 1), 1);
        x.yard(3, 5, 1, false);
        x.yard(2, 5, 1, false);
        Due.is("all moved away", x.worth(3, 1, 1), 0);
        Due.law(x, "m5(y=2&d>4|y=3);s1(y=2);s9(y=4)");
        x.yard(2, 9, 1, false);
        x.yard(3, 0, 1, false);
        x.yard(4, 0, 0, false);
        // Without: 5 go up in hour 0 and 4 stay. With: of those 4 one is sieved each hour.
        Due.is("one each hour", x.worth(2, 1, 3), 3);
        x.yard(2, 10, 1, false);
        // Without: 5 and 5 go up and are sieved at 4 by hours 2. With: 5 go up, 1 is sieved, 4 stay, 1, 1 of them.
        Due.is("less than nothing", x.worth(2, 1, 3), -2);
        for (int y : new int[] {-1, 20, LEAST, MOST}) Due.is("yard " + y, x.worth(y, 1, 1), NONE);
        for (int b : new int[] {-1, 6, LEAST, MOST}) Due.is("beggar " + b, x.worth(3, b, 1), NONE);
        for (int n : new int[] {0, 41, LEAST, MOST}) Due.is("n " + n, x.worth(3, 1, n), NONE);
        Due.is("no licence is given", x.yardIs(2, 3), 6);
        Due.is("no hour", x.count(0), 1);
    }

    private static void sold() {
        DustMint x = Due.mint("sq(1=1)");
        x.yard(7, 90, 0, false);
        int[] skills = {3, 8, 1, 8, 5, 0};
        for (int b = 0; b < 6; b++) x.skill(b, skills[b]);
        Due.is("to the lowest of like ones", x.sold(7, 2, 0), 1);
        Due.is("for as much", x.sold(7, 2, 1), 16);
        x.skill(3, 9);
        Due.is("to 3", x.sold(7, 2, 0), 3);
        Due.is("for what it is worth to 1", x.sold(7, 2, 1), 16);
        x.skill(1, 0);
        Due.is("for what it is worth to 4", x.sold(7, 2, 1), 10);
        Due.is("in one hour", x.sold(7, 1, 1), 5);
        x.skill(0, 6);
        Due.is("for what it is worth to 0", x.sold(7, 2, 1), 12);
        x.licence(7, 3);
        Due.is("as if nobody had it", x.sold(7, 2, 0), 3);
        Due.is("nothing worth: to 0", x.sold(8, 2, 0), 0);
        Due.is("for nothing", x.sold(8, 2, 1), 0);
        Due.is("40 hours: all", x.sold(7, 40, 1), 90);
        Due.is("of like ones the lowest", x.sold(7, 40, 0), 0);
        for (int y : new int[] {-1, 20, LEAST, MOST}) Due.is("yard " + y, x.sold(y, 1, 0), NONE);
        for (int n : new int[] {0, 41, LEAST, MOST}) Due.is("n " + n, x.sold(7, n, 0), NONE);
        for (int what : new int[] {-1, 2, LEAST, MOST}) Due.is("what " + what, x.sold(7, 1, what), NONE);
        Due.is("the licence stays", x.yardIs(7, 3), 3);
        Due.is("no hour", x.count(0), 0);
    }

    private static int shook(DustMint x, int what, int p, int... lost) {
        Due.feed(x, lost);
        return x.shook(p, lost.length, what);
    }

    private static void shook() {
        DustMint x = Due.mint("l1+y*2+z*50(1=1)");
        x.porter(3, 4, 1000, 7, 7);
        // Draws 2, 7, 6: it sneezes in the second hour and stands at 5 in the third, so it limped in hour 0 or 1, or not at all.
        Due.is("how many", shook(x, NONE, 3, 9, 59, 11), 1);
        Due.is("limp", shook(x, 0, 3, 9, 59, 11), 1);
        Due.is("sneeze", shook(x, 1, 3, 9, 59, 11), 7);
        Due.is("always at 4", shook(x, NONE, 3, 9, 9, 59), 8);
        Due.is("always at 4: limp", shook(x, 0, 3, 9, 9, 59), 2);
        Due.is("always at 4: sneeze", shook(x, 1, 3, 9, 9, 59), 6);
        Due.is("none", shook(x, NONE, 3, 8), 0);
        Due.is("no limp", shook(x, 0, 3, 8), -2);
        Due.is("no sneeze", shook(x, 1, 3, 8), -2);
        Due.is("the tape is empty", x.count(2), 0);
        Due.is("more than a byte's half", shook(x, NONE, 3, 255), 0);
        Due.is("eight hours", shook(x, NONE, 3, 9, 9, 9, 9, 9, 9, 9, 9) >= 0, true);
        Due.is("not told", shook(x, NONE, 4, 1), -3);
        Due.is("the tape is empty behind that, too", x.count(2), 0);
        for (int p : new int[] {-1, 9, LEAST, MOST}) Due.is("porter " + p, shook(x, 0, p, 1), -3);
        x.porter(5, 19, 10, 0, 0);
        x.keep();
        x.hour(0);
        Due.is("arrived", shook(x, 1, 5, 0), -3);
        x.undo();
        Due.is("it arrives and loses nothing then", shook(x, 0, 5, 10, 0, 0), 0);
        Due.is("too short", x.shook(3, 1, NONE), NONE);
        Due.is("too short, no porter", x.shook(7, 1, NONE), NONE);
        Due.feed(x, 9);
        for (int n : new int[] {0, 9, -1, 21, LEAST, MOST}) Due.is("n " + n, x.shook(3, n, NONE), NONE);
        for (int what : new int[] {-2, 2, LEAST, MOST}) Due.is("what " + what, x.shook(3, 1, what), NONE);
        Due.is("the tape stays", x.count(2), 20);
        Due.is("nothing is changed", x.porterIs(3, 2) * 10 + x.porterIs(3, 3), 77);
        Due.is("no hour", x.count(0) + x.led(NONE, NONE), 0);
        Due.is("X stays", x.count(3), 1);
        Due.is("the first of all", x.shook(3, 1, 1), 0);
    }

    private static void led() {
        DustMint x = Due.mint("l3+p(1=1)");
        x.porter(0, 2, 100, 0, 0);
        x.porter(1, 3, 100, 0, 0);
        x.hours(2);
        Due.is("0 at 2", x.led(0, 2), 3);
        Due.is("0 at 3", x.led(0, 3), 3);
        Due.is("1 at 3", x.led(1, 3), 4);
        Due.is("all at 3", x.led(NONE, 3), 7);
        Due.is("0 at all", x.led(0, NONE), 6);
        Due.is("all at all", x.led(NONE, NONE), 14);
        Due.is("one that is not told", x.led(8, 3), 0);
        for (int p : new int[] {-2, 9, LEAST, MOST}) Due.is("porter " + p, x.led(p, NONE), -2);
        for (int y : new int[] {-2, 20, LEAST, MOST}) Due.is("yard " + y, x.led(NONE, y), -2);
        Due.law(x, "m99(1=1);k99(1=1)");
        x.yard(3, 7, 1, false);
        x.hours(5);
        Due.is("what moves stays led", x.led(NONE, 3), 7);
    }

    private static void share() {
        DustMint x = Due.mint("l2+p*4(1=1)");
        x.porter(0, 2, 100, 9, 0);
        x.porter(1, 2, 100, 9, 0);
        x.hour(0);
        Due.is("2 of 8", x.share(0, 2, 0), 1);
        Due.is("2 of 8, below", x.share(0, 2, 1), 4);
        Due.is("6 of 8", x.share(1, 2, 0), 3);
        Due.is("6 of 8, below", x.share(1, 2, 1), 4);
        Due.is("0 of 8", x.share(5, 2, 0), 0);
        Due.is("0 of 8, below", x.share(5, 2, 1), 1);
        Due.is("nothing there", x.share(0, 3, 0), -2);
        Due.is("nothing there, below", x.share(8, 19, 1), -2);
        for (int p : new int[] {-1, 9, LEAST, MOST}) Due.is("porter " + p, x.share(p, 2, 0), NONE);
        for (int y : new int[] {-1, 20, LEAST, MOST}) Due.is("yard " + y, x.share(0, y, 0), NONE);
        for (int what : new int[] {-1, 2, LEAST, MOST}) Due.is("what " + what, x.share(0, 3, what), NONE);
        x = Due.mint("l7(1=1)");
        x.porter(4, 0, 100, 0, 0);
        x.hour(0);
        Due.is("all", x.share(4, 0, 0) * 10 + x.share(4, 0, 1), 11);
    }

    private static void odds() {
        DustMint x = Due.mint("l5*z(1=1)");
        x.porter(0, 18, 20, 0, 3);
        // At 18 and at 19 it loses 5 by one draw of ten each.
        Due.is("not yet", x.odds(1, 1, 0), 0);
        Due.is("not yet, below", x.odds(1, 1, 1), 1);
        Due.is("nothing is asked", x.odds(1, 0, 0), 1);
        Due.is("20", x.odds(2, 20, 0), 81);
        Due.is("20, below", x.odds(2, 20, 1), 100);
        Due.is("15", x.odds(2, 15, 0), 99);
        Due.is("16 is as 20", x.odds(2, 16, 0), 81);
        Due.is("10", x.odds(2, 10, 0), 1);
        Due.is("in three", x.odds(3, 20, 1), 100);
        Due.is("too much", x.odds(3, 99999, 0), 0);
        for (int n : new int[] {0, 4, LEAST, MOST}) Due.is("n " + n, x.odds(n, 1, 0), NONE);
        for (int g : new int[] {-1, 100000, LEAST, MOST}) Due.is("gold " + g, x.odds(1, g, 0), NONE);
        for (int what : new int[] {-1, 2, LEAST, MOST}) Due.is("what " + what, x.odds(1, 1, what), NONE);
        Due.is("nothing is changed", x.count(0) + x.count(4), 0);
        Due.is("X stays", x.count(3), 1);
        x.porter(1, 19, 3, 0, 4);
        x.porter(2, 19, 4, 0, 5);
        Due.is("5 of 10 alike", x.odds(1, 5, 0) * 100 + x.odds(1, 5, 1), 405);
        x.porter(0, 17, 20, 0, 3);
        x.porter(1, 0, 0, 0, 0);
        x.porter(2, 0, 0, 0, 0);
        Due.is("three hours", x.odds(3, 20, 0), 729);
        Due.is("three hours, below", x.odds(3, 20, 1), 1000);
        Due.is("three hours, 15", x.odds(3, 15, 0) * 1000 + x.odds(3, 15, 1), 243250);
        // The law looks at dust that the wind brings: it must be moved on each way.
        x = Due.mint("l99(d>0);m9(z=0)");
        x.porter(0, 18, 50, 0, 0);
        x.yard(18, 0, 0, false);
        x.yard(19, 0, 0, false);
        Due.is("no dust", x.odds(2, 50, 0), 1);
        x.yard(19, 0, 0, false);
        x.yard(17, 9, 1, false);
        x.yard(18, 0, 1, false);
        x.porter(0, 18, 50, 1, 0);
        Due.is("dust comes", x.odds(3, 1, 0), 0);
    }

    private static void seed() {
        DustMint x = new DustMint();
        Due.is("seed", x.seed(65535) && x.seed(0), true);
        for (int n : new int[] {-1, 65536, LEAST, MOST}) Due.is("seed " + n, x.seed(n), false);
        Due.is("X", x.count(3), 0);
        x.hours(1);
        Due.is("from 0", x.count(3), 13849);
        x.seed(65535);
        x.hours(1);
        // 13849 - 25173 modulo 65536.
        Due.is("from the greatest", x.count(3), 54212);
        x.seed(1);
        x.hours(2);
        Due.is("two on", x.count(3), 61087);
    }

    /** A hill behind two hours, with something on its tape. */
    private static DustMint behindHours() {
        DustMint x = Due.mint("l5(1=1);m1(1=1);k1(1=1);s1(1=1)");
        x.yard(0, 50, -1, true);
        x.yard(1, 50, 0, false);
        x.licence(1, 3);
        x.skill(3, 2);
        x.rain(7, 7);
        x.porter(0, 19, 50, 1, 2);
        x.porter(1, 5, 50, 3, 4);
        x.hours(2);
        x.feed(1, 2, 3, 4, 5);
        return x;
    }

    private static void keep() {
        DustMint x = behindHours();
        Due.is("nothing kept", x.undo(), false);
        Due.is("the hour", x.keep(), 2);
        x.hours(5);
        x.yard(0, 0, 3, false);
        x.licence(1, NONE);
        x.licence(9, 5);
        x.skill(3, 9);
        x.rain(7, 1);
        x.porter(1, 0, 1, 1, 1);
        x.porter(7, 0, 1, 1, 1);
        x.seed(77);
        x.feed(9, 9, 9, 9, 9);
        Due.is("no law", x.law(40), -1000);
        Due.is("undone", x.undo(), true);
        Rig.same("as it was", Rig.seen(x), Rig.seen(behindHours()));
        for (int y = 0; y < 5; y++) x.yard(y, y + 1, 0, false);
        Due.is("the tape as it was", x.check(5), NONE);
        x.check(0);
        Due.law(x, "l2(1=1);m1(1=1)");
        Due.is("undone again", x.undo(), true);
        Due.is("the law is not undone", x.count(1), 2);
        Due.is("by the new law", x.porterIs(1, 4), 2);
        x.hours(3);
        Due.is("kept anew", x.keep(), 5);
        x.hours(1);
        x.undo();
        Due.is("as it was kept last", x.count(0), 5);
    }

    private static void check() {
        DustMint x = new DustMint();
        for (int y = 0; y < 20; y++) x.yard(y, 1000 * y + 255, 0, false);
        for (int y = 0; y < 20; y += 5) x.feed(1000 * y + 255, 1000 * y + 1255, 1000 * y + 2255, 1000 * y + 3255, 1000 * y + 4255);
        for (int n : new int[] {-1, 21, LEAST, MOST}) Due.is("n " + n, x.check(n), -2);
        Due.is("the tape stays", x.count(2), 80);
        Due.is("all right", x.check(20), NONE);
        Due.is("empty then", x.count(2), 0);
        Due.is("it has not so many", x.check(1), -2);
        Due.is("none to look at", x.check(0), NONE);
        x.feed(255, 1255, 2254, 3255, 0);
        Due.is("the first that is not so", x.check(5), 2);
        Due.is("empty then, too", x.count(2), 0);
        x.feed(255, 1255, 2254, 3255, 0);
        Due.is("only the first ones", x.check(2), NONE);
        x.feed(255, 0, 0, 0, 0);
        Due.is("six are not there", x.check(6), -2);
        Due.is("the tape stays", x.count(2), 20);
        Due.is("five are", x.check(5), 1);
        x.feed(-65281, 0, 0, 0, 0);
        Due.is("all 32 bits", x.check(1), 0);
        x.feed(16777216 + 255, 0, 0, 0, 0);
        Due.is("the highest byte", x.check(1), 0);
    }

    private static void count() {
        DustMint x = Due.mint("l4(1=1);m1(1=1);k2(1=1);s3(1=1)");
        x.porter(2, 19, 50, 0, 0);
        x.porter(6, 3, 50, 0, 0);
        x.yard(0, 9, -1, false);
        x.yard(1, 30, 0, false);
        x.licence(1, 4);
        x.skill(4, 6);
        x.rain(42, 8);
        x.feed(0, 0, 0, 0, 0);
        x.hours(1);
        // Washed: 2 of yards 0, 1, 3, 19.
        int[] due = {1, 4, 20, 39022, 46, 8, 1, 9 + 30 + 8 - 8 - 1 - 3, 68};
        for (int what = 0; what <= 8; what++) Due.is("count " + what, x.count(what), due[what]);
        Due.is("purse", x.count(14), 3);
        Due.is("skill", x.count(24), 6);
        Due.is("rain", x.count(142), 8);
        for (int what : new int[] {-1, 9, 16, 19, 26, 99, 200, LEAST, MOST}) Due.is("count " + what, x.count(what), NONE);
    }

    private SearchPromises() {
    }
}
