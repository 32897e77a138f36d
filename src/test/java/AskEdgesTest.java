/** Boundaries of the calls that only look: promises 11 to 13, 21 to 23 and 28. What is quoted is the document's. */
public final class AskEdgesTest {
    private static final int NONE = DustMint.NONE;
    private static final Rig RIG = Rig.ofNumbers();

    public static void main(String[] args) {
        yardIs();
        porterIs();
        porterIsByDraw();
        triedNumbers();
        triedWhat();
        triedByTwin();
        led();
        ledSums();
        share();
        shareLines();
        oddsNumbers();
        oddsAtLeast();
        oddsOverAll();
        count();
        Due.end();
    }

    /** "what 0 DUST, 1 WIND, 2 CARPET (1, 0), 3 whose LICENCE (6: nobody's); -1000 for others." */
    private static void yardIs() {
        for (int y : new int[] {0, 19}) for (int what = 0; what <= 3; what++) asked("yardIs", y, what);
        for (int y : Rig.outside(0, 19)) RIG.unchanged("yardIs " + y, x -> x.yardIs(y, 0), -1000);
        for (int what : Rig.outside(0, 3)) RIG.unchanged("yardIs what " + what, x -> x.yardIs(0, what), -1000);
        RIG.unchanged("neither", x -> x.yardIs(20, 4), -1000);
        DustMint x = new DustMint();
        x.yard(0, 99999, -3, true);
        x.licence(0, 0);
        int[] least = {99999, -3, 1, 0};
        for (int what = 0; what <= 3; what++) Due.is("yard 0, " + what, x.yardIs(0, what), least[what]);
        x.yard(19, 0, 3, false);
        x.licence(19, 5);
        int[] most = {0, 3, 0, 5};
        for (int what = 0; what <= 3; what++) Due.is("yard 19, " + what, x.yardIs(19, what), most[what]);
        x.licence(19, NONE);
        Due.is("nobody's", x.yardIs(19, 3), 6);
    }

    private static void asked(String call, int a, int b) {
        RIG.asks(call + " " + a + " " + b, x -> call.equals("yardIs") ? x.yardIs(a, b) : x.porterIs(a, b));
    }

    /** "Of a told PORTER, what 0 its YARD (20: arrived), 1 BOWL, 2 LIMP, 3 SNEEZE, 4 ..; NONE for others." */
    private static void porterIs() {
        for (int p : new int[] {0, 3, 8}) for (int what = 0; what <= 4; what++) asked("porterIs", p, what);
        for (int what = 0; what <= 4; what++) {
            int seen = what;
            for (int p : Rig.outside(0, 8)) RIG.unchanged("porterIs " + p, x -> x.porterIs(p, seen), NONE);
            for (int p : new int[] {1, 2, 4, 7}) RIG.unchanged("porterIs, not told " + p, x -> x.porterIs(p, seen), NONE);
        }
        for (int what : Rig.outside(0, 4)) RIG.unchanged("porterIs what " + what, x -> x.porterIs(3, what), NONE);
        DustMint x = RIG.made();
        int[] arrived = {20, 0, 0, 3, 0};
        for (int what = 0; what <= 4; what++) Due.is("arrived, " + what, x.porterIs(0, what), arrived[what]);
        x = new DustMint();
        x.porter(0, 0, 0, 0, 0);
        x.porter(8, 19, 9999, 9, 9);
        int[] most = {19, 9999, 9, 9, 0};
        for (int what = 0; what <= 4; what++) {
            Due.is("the least, " + what, x.porterIs(0, what), 0);
            Due.is("the most, " + what, x.porterIs(8, what), most[what]);
        }
    }

    /** "4 what it would lose now by a DRAW of 5 (arrived: 0)". */
    private static void porterIsByDraw() {
        for (int sneeze = 0; sneeze <= 9; sneeze++) {
            DustMint x = Due.mint("l1+z*98(1=1)");
            x.porter(2, 19, 9999, 0, sneeze);
            Due.is("sneeze " + sneeze, x.porterIs(2, 4), sneeze == 5 ? 99 : 1);
            x.hour(0);
            Due.is("arrived", x.porterIs(2, 4), 0);
        }
        // Now: with the dust that is there, not with what those before it would lose.
        DustMint x = Due.mint("l1+d+n(1=1)");
        x.porter(0, 3, 10, 0, 0);
        x.porter(1, 3, 2, 0, 0);
        Due.is("first", x.porterIs(0, 4), 3);
        Due.is("second, as much as is there", x.porterIs(1, 4), 2);
        x.porter(1, 3, 10, 0, 0);
        Due.is("second", x.porterIs(1, 4), 3);
        x.porter(1, 3, 0, 0, 0);
        Due.is("an empty bowl", x.porterIs(1, 4), 0);
    }

    /** "TRIED are so many HOURS (1 to 40) by the DRAWS that will come; nothing is changed."; "NONE: no such ones." */
    private static void triedNumbers() {
        for (int n : Rig.outside(1, 40)) for (int what : new int[] {0, 3, 13, 23, 30, 40, -1}) RIG.unchanged("tried n " + n, x -> x.tried(n, what), NONE);
        for (int n : new int[] {1, 40}) for (int what : new int[] {0, 1, 2, 3, 10, 13, 28, 35, 59}) RIG.asks("tried " + n + " " + what, x -> x.tried(n, what));
    }

    /** What may be asked for: 0 to 3, 10 and 20 + told porters, 30 + 0 to 5, 40 + 0 to 19; nothing between and beyond. */
    private static void triedWhat() {
        DustMint x = RIG.made();
        for (int what = -45; what <= 105; what++) {
            boolean isTold = what >= 10 && what < 29 && what % 10 < 9 && (Rig.TOLD >> what % 10 & 1) != 0;
            boolean stands = what >= 0 && what <= 3 || isTold || what >= 30 && what <= 35 || what >= 40 && what <= 59;
            Due.is("tried what " + what, x.tried(1, what) == NONE, !stands);
        }
        for (int what : Rig.outside(0, 59)) RIG.unchanged("tried what " + what, m -> m.tried(2, what), NONE);
        for (int what : new int[] {4, 9, 11, 17, 19, 21, 27, 29, 36, 39, 60}) RIG.unchanged("tried what " + what, m -> m.tried(2, what), NONE);
    }

    /** What is tried comes so: against the same hours on another object. */
    private static void triedByTwin() {
        for (int n : new int[] {1, 2, 39, 40}) {
            DustMint x = RIG.made();
            DustMint twin = RIG.made();
            Due.is("lost in " + n, x.tried(n, 3), twin.hours(n));
            for (int what = 0; what <= 2; what++) Due.is("tried " + n + " " + what, x.tried(n, what), twin.count(4 + what));
            for (int p = 0; p < 9; p++) {
                Due.is("bowl of " + p, x.tried(n, 10 + p), twin.porterIs(p, 1));
                Due.is("yard of " + p, x.tried(n, 20 + p), twin.porterIs(p, 0));
            }
            for (int b = 0; b < 6; b++) Due.is("purse of " + b, x.tried(n, 30 + b), twin.count(10 + b));
            for (int y = 0; y < 20; y++) Due.is("dust of " + y, x.tried(n, 40 + y), twin.yardIs(y, 0));
        }
    }

    /** "LED to a PORTER (NONE: to all) at a YARD (NONE: at all); -2: no such ones." */
    private static void led() {
        for (int p : Rig.outside(NONE, 8)) for (int y : new int[] {NONE, 0, 19}) RIG.unchanged("led " + p + " " + y, x -> x.led(p, y), -2);
        for (int y : Rig.outside(NONE, 19)) for (int p : new int[] {NONE, 0, 8}) RIG.unchanged("led " + p + " " + y, x -> x.led(p, y), -2);
        RIG.unchanged("led, neither", x -> x.led(-2, -2), -2);
        for (int p : new int[] {NONE, 0, 8}) for (int y : new int[] {NONE, 0, 19}) RIG.asks("led " + p + " " + y, x -> x.led(p, y));
    }

    /** All is what each has: to all at a yard, to a porter at all, and both; one that is not told has nothing. */
    private static void ledSums() {
        DustMint x = RIG.made();
        int all = 0;
        int[] at = new int[20];
        for (int p = 0; p < 9; p++) {
            int to = 0;
            for (int y = 0; y < 20; y++) {
                int n = x.led(p, y);
                at[y] += n;
                to += n;
            }
            Due.is("led to " + p, x.led(p, NONE), to);
            Due.is("led to one that is there", to > 0, (Rig.TOLD >> p & 1) != 0);
            all += to;
        }
        for (int y = 0; y < 20; y++) Due.is("led at " + y, x.led(NONE, y), at[y]);
        Due.is("led", x.led(NONE, NONE), all);
    }

    /** "what 0 above, 1 below the line ..; -2: nothing was LED there; NONE: no such ones." */
    private static void share() {
        for (int what = 0; what <= 1; what++) {
            int line = what;
            for (int p : Rig.outside(0, 8)) RIG.unchanged("share of " + p, x -> x.share(p, 4, line), NONE);
            for (int y : Rig.outside(0, 19)) RIG.unchanged("share at " + y, x -> x.share(3, y, line), NONE);
            for (int p : new int[] {0, 8}) RIG.unchanged("nothing led at 0", x -> x.share(p, 0, line), -2);
            // Porter 0 was at 19 and lost there; porters 1 and 2 are not told.
            RIG.unchanged("all of it", x -> x.share(0, 19, line), 1);
            RIG.unchanged("nothing of it", x -> x.share(8, 19, line), line);
            RIG.unchanged("nothing of it, not told", x -> x.share(1, 19, line), line);
        }
        for (int what : Rig.outside(0, 1)) {
            RIG.unchanged("share what " + what, x -> x.share(3, 4, what), NONE);
            RIG.unchanged("share what " + what + ", nothing led", x -> x.share(3, 0, what), NONE);
        }
    }

    /** "without a common divisor": each two of what two porters lost, 1 to 99 grains. */
    private static void shareLines() {
        for (int a = 0; a <= 99; a += 3) {
            DustMint x = Due.mint("lg(1=1)");
            for (int y = 0; y < 20; y++) {
                int b = 1 + (7 * y + a) % 99;
                x.porter(0, y, a, 9, 0);
                x.porter(1, y, b, 9, 0);
                x.hour(0);
                int divisor = a;
                for (int k = b; k != 0; ) {
                    int rest = divisor % k;
                    divisor = k;
                    k = rest;
                }
                Due.is(a + " beside " + b, x.share(0, y, 0), a / divisor);
                Due.is(a + " beside " + b + ", below", x.share(0, y, 1), (a + b) / divisor);
                Due.is(b + " beside " + a, x.share(1, y, 0), b / divisor);
            }
        }
    }

    /** "ODDS: over all DRAWS of n HOURS (1 to 3; ..)"; "NONE: no such ones (0 to 99999 grains)." */
    private static void oddsNumbers() {
        for (int what = 0; what <= 1; what++) {
            int line = what;
            for (int n : Rig.outside(1, 3)) RIG.unchanged("odds n " + n, x -> x.odds(n, 5, line), NONE);
            for (int gold : Rig.outside(0, 99999)) RIG.unchanged("odds gold " + gold, x -> x.odds(1, gold, line), NONE);
            for (int n : new int[] {1, 3}) {
                RIG.unchanged("odds " + n + " of 0", x -> x.odds(n, 0, line), 1);
                RIG.unchanged("odds " + n + " of 99999", x -> x.odds(n, 99999, line), line);
            }
        }
        for (int what : Rig.outside(0, 1)) RIG.unchanged("odds what " + what, x -> x.odds(1, 5, what), NONE);
    }

    /** "that the gold in THE MINT is at least so much behind them": with what is there already. */
    private static void oddsAtLeast() {
        DustMint x = new DustMint();
        for (int i = 0; i < 10; i++) {
            x.porter(i % 9, 19, 9999, 0, 0);
            x.hour(0);
        }
        Due.is("gold", x.count(4), 99990);
        x.porter(0, 19, 9, 0, 0);
        Due.is("99999 of 99999", x.odds(1, 99999, 0) * 10 + x.odds(1, 99999, 1), 11);
        x.porter(0, 19, 8, 0, 0);
        Due.is("99999 of 99998", x.odds(1, 99999, 0) * 10 + x.odds(1, 99999, 1), 1);
        Due.is("99998 of 99998", x.odds(1, 99998, 0) * 10 + x.odds(1, 99998, 1), 11);
        x.porter(0, 19, 9999, 0, 0);
        Due.is("more than can be asked for", x.odds(1, 99999, 0) * 10 + x.odds(1, 99999, 1), 11);
    }

    /** "each 0 to 9 alike": one draw of ten, of a hundred, of a thousand, the last one too; by the hours' own order. */
    private static void oddsOverAll() {
        for (int sneeze = 0; sneeze <= 9; sneeze++) {
            for (int n = 1; n <= 3; n++) {
                DustMint x = Due.mint("l1(z=0)");
                int all = n == 1 ? 10 : n == 2 ? 100 : 1000;
                x.porter(0, 20 - n, 10, 0, sneeze);
                Due.is("all sneezes, " + n, x.odds(n, 10, 0), 1);
                Due.is("all sneezes below, " + n, x.odds(n, 10, 1), all);
                Due.is("all but none, " + n, x.odds(n, 11, 0), 0);
                // One yard further down it has not arrived behind n hours.
                x.porter(0, 19 - n, 10, 0, sneeze);
                Due.is("not behind " + n, x.odds(n, 1, 0) * 10 + x.odds(n, 1, 1), 1);
            }
        }
        // In the first hour it sneezes at 0, in the second it loses by dust that only this first one left.
        DustMint x = Due.mint("l5(z=1&t=0);l2(y=19&z=1);l3(d>0&t=1)");
        x.porter(0, 19, 10, 1, 0);
        Due.is("neither of two sneezes", x.odds(2, 10, 0) * 1000 + x.odds(2, 10, 1), 81100);
        Due.is("not the first one", x.odds(2, 8, 0) * 1000 + x.odds(2, 8, 1), 9010);
        // Of those who sneezed first, one of ten loses 5 + 2, the others 5 + 3.
        Due.is("both", x.odds(2, 3, 0) * 1000 + x.odds(2, 3, 1), 91100);
        Due.is("all", x.odds(2, 2, 0) * 1000 + x.odds(2, 2, 1), 1001);
        // What is lost in the second hour hangs on dust that the wind brings in the first one, and a beggar may sieve.
        x = Due.mint("l4(d>0);m9(1=1);s99(q>0)");
        x.yard(18, 9, 1, false);
        x.porter(0, 19, 10, 1, 0);
        Due.is("by the wind's dust", x.odds(2, 6, 0) * 10 + x.odds(2, 6, 1), 11);
        Due.is("by the wind's dust, not more", x.odds(2, 7, 0) * 10 + x.odds(2, 7, 1), 1);
        x.licence(19, 4);
        Due.is("it sieves nothing", x.odds(2, 7, 0), 0);
        x.skill(4, 1);
        Due.is("the dust is sieved", x.odds(2, 10, 0) * 10 + x.odds(2, 10, 1), 11);
    }

    /** count: "0 THE HOUR, .. 8 told PORTERS (bits); 10 + b the PURSE, 20 + b the SKILL .., 100 + h RAIN .. NONE for others." */
    private static void count() {
        DustMint x = RIG.made();
        for (int what = -120; what <= 320; what++) {
            boolean stands = what >= 0 && what <= 8 || what >= 10 && what <= 15 || what >= 20 && what <= 25 || what >= 100 && what <= 199;
            Due.is("count " + what, x.count(what) == NONE, !stands);
        }
        for (int what : Rig.outside(0, 199)) RIG.unchanged("count " + what, m -> m.count(what), NONE);
        for (int what : new int[] {9, 16, 17, 19, 26, 30, 99}) RIG.unchanged("count " + what, m -> m.count(what), NONE);
        for (int what : new int[] {0, 8, 10, 15, 20, 25, 100, 199}) RIG.asks("count " + what, m -> m.count(what));
        x = new DustMint();
        for (int p = 0; p < 9; p++) {
            x.porter(p, p, 1, 1, 1);
            Due.is("told", x.count(8), (2 << p) - 1);
        }
    }
}
