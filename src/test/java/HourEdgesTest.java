/** Boundaries of AN HOUR and of DRAWS in the Terms, and promises 9 and 10. What is quoted is the document's. */
public final class HourEdgesTest {
    private static final int NONE = DustMint.NONE;
    private static final Rig RIG = Rig.ofNumbers();

    public static void main(String[] args) {
        hoursNumbers();
        hourDraws();
        draws();
        sneezes();
        asMuchAsIsThere();
        heldTo99999();
        ledAll();
        limps();
        arrives();
        windEnds();
        windFull();
        windAhead();
        washed();
        sieved();
        order();
        hourIsOneMore();
        most();
        Due.end();
    }

    /** hours: "HOURS (1 to 40) by DRAWS: how much is lost by l in them; NONE: no such n." */
    private static void hoursNumbers() {
        for (int n : Rig.outside(1, 40)) RIG.unchanged("hours " + n, x -> x.hours(n), NONE);
        for (int n : new int[] {1, 2, 39, 40}) {
            DustMint whole = RIG.made();
            DustMint single = RIG.made();
            int lost = whole.hours(n);
            int together = 0;
            for (int h = 0; h < n; h++) together += single.hours(1);
            Due.is("hours " + n, lost, together);
            Due.is("hours " + n + ", THE HOUR", whole.count(0), 3 + n);
            Rig.same("hours " + n, Rig.seen(whole), Rig.seen(single));
        }
    }

    /** hour: "AN HOUR with a told DRAW (X stays): how much is lost by l; NONE: no such DRAW."; "a DRAW (0 to 9)". */
    private static void hourDraws() {
        for (int draw : Rig.outside(0, 9)) RIG.unchanged("hour " + draw, x -> x.hour(draw), NONE);
        for (int draw = 0; draw <= 9; draw++) {
            DustMint x = Due.mint("l1+z*9(1=1)");
            for (int p = 0; p < 9; p++) x.porter(p, p, 100, 0, p);
            Due.is("hour " + draw, x.hour(draw), draw < 9 ? 18 : 9);
            for (int p = 0; p < 9; p++) Due.is("led to " + p, x.led(p, p), p == draw ? 10 : 1);
            Due.is("X stays", x.count(3), 1);
        }
    }

    /** "X = (25173 X + 13849) modulo 65536 (X is THE SEED at first, 1): X modulo 10". */
    private static void draws() {
        int[] seeds = {0, 1, 2, 3, 65533, 65534, 65535, 32767, 32768, 9999, 10000, 51687};
        for (int seed : seeds) {
            DustMint x = new DustMint();
            if (seed != 1) x.seed(seed);
            long due = seed;
            for (int i = 0; i < 100; i++) {
                due = (25173 * due + 13849) % 65536;
                x.hours(1);
                Due.is("X from " + seed + ", " + i, x.count(3), (int) due);
            }
        }
        DustMint x = new DustMint();
        long due = 65535;
        x.seed(65535);
        // "An object is used for at most 512 calls": so many hours are the most there can be.
        for (int i = 0; i < 509; i++) {
            for (int h = 0; h < 40; h++) due = (25173 * due + 13849) % 65536;
            x.hours(40);
        }
        Due.is("X far later", x.count(3), (int) due);
        Due.is("THE HOUR far later", x.count(0), 20360);
    }

    /** "it sneezes if the DRAW is its SNEEZE": by the draws that come, the one of the X behind the step. */
    private static void sneezes() {
        for (int sneeze = 0; sneeze <= 9; sneeze++) {
            DustMint x = Due.mint("lz(1=1)");
            long seen = 1;
            for (int i = 0; i < 60; i++) {
                x.porter(0, 0, 10, 9, sneeze);
                seen = (25173 * seen + 13849) % 65536;
                Due.is("sneeze " + sneeze + " in hour " + i, x.hours(1), seen % 10 == sneeze ? 1 : 0);
            }
        }
    }

    /** "(as much as is there ..)" of a bowl, by the wind, by rain, by a beggar: one less, as much, one more. */
    private static void asMuchAsIsThere() {
        for (int there : new int[] {0, 1, 4, 5, 6, 98, 99, 100}) {
            for (int asked : new int[] {5, 99}) {
                int due = Math.min(there, asked);
                DustMint x = Due.mint("l" + asked + "(y=2);m" + asked + "(y=5);k" + asked + "(y=9);s" + asked + "(y=12)");
                x.porter(1, 2, there, 9, 0);
                x.yard(5, there, -1, false);
                x.yard(9, there, 0, false);
                x.yard(12, there, 0, false);
                x.licence(12, 0);
                Due.is("would lose " + asked + " of " + there, x.porterIs(1, 4), due);
                Due.is("loses " + asked + " of " + there, x.hour(1), due);
                Due.is("bowl", x.porterIs(1, 1), there - due);
                Due.is("dust", x.yardIs(2, 0), due);
                Due.is("moved", x.yardIs(4, 0), due);
                Due.is("moved from", x.yardIs(5, 0), there - due);
                Due.is("washed", x.count(5), due);
                Due.is("washed from", x.yardIs(9, 0), there - due);
                Due.is("sieved", x.count(10), due);
                Due.is("sieved from", x.yardIs(12, 0), there - due);
                Due.is("nothing is gone", x.count(6), 0);
            }
        }
    }

    /** "that is DUST of its YARD more (held to 99999, the rest is GONE)". */
    private static void heldTo99999() {
        for (int dust = 99993; dust <= 99999; dust++) {
            DustMint x = Due.mint("l5(1=1)");
            x.yard(0, dust, 0, false);
            x.porter(0, 0, 100, 9, 0);
            Due.is("lost at " + dust, x.hour(0), 5);
            Due.is("dust", x.yardIs(0, 0), Math.min(99999, dust + 5));
            Due.is("gone", x.count(6), Math.max(0, dust + 5 - 99999));
        }
        // Two at one yard: the second finds what room the first has left.
        for (int dust = 99988; dust <= 99999; dust++) {
            DustMint x = Due.mint("l5(1=1)");
            x.yard(19, dust, 0, false);
            x.porter(3, 19, 100, 9, 0);
            x.porter(7, 19, 100, 9, 0);
            Due.is("lost by two at " + dust, x.hour(0), 10);
            Due.is("dust", x.yardIs(19, 0), Math.min(99999, dust + 10));
            Due.is("gone", x.count(6), Math.max(0, dust + 10 - 99999));
        }
    }

    /** "and is LED to it there": all that was lost, what is gone, too; once moved it stays so. */
    private static void ledAll() {
        DustMint x = Due.mint("l5(1=1);m99(1=1)");
        x.yard(0, 99997, -1, false);
        x.porter(3, 0, 8, 9, 0);
        x.hour(0);
        Due.is("led", x.led(3, 0), 5);
        Due.is("gone: 3 without room, 99 below the foot", x.count(6), 102);
        x.hour(0);
        Due.is("the last three of its bowl", x.led(3, 0), 8);
        x.hour(0);
        Due.is("nothing more", x.led(3, 0), 8);
        Due.is("at one yard only", x.led(NONE, NONE), 8);
    }

    /** "Each of them goes up a YARD, but not if THE HOUR modulo 10 is below its LIMP". */
    private static void limps() {
        for (int limp = 0; limp <= 9; limp++) {
            DustMint x = new DustMint();
            for (int h = 0; h < 31; h++) {
                x.porter(4, 7, 1, limp, 0);
                x.hour(0);
                Due.is("limp " + limp + " in hour " + h, x.porterIs(4, 0), h % 10 < limp ? 7 : 8);
            }
        }
        DustMint x = new DustMint();
        for (int i = 0; i < 25; i++) x.hours(40);
        for (int p = 0; p < 9; p++) x.porter(p, 0, 1, p + 1, 0);
        x.hours(9);
        for (int p = 0; p < 9; p++) Due.is("limp " + (p + 1) + " from hour 1000 on", x.porterIs(p, 0), 8 - p);
        x.hours(1);
        Due.is("limp 9 in hour 1009", x.porterIs(8, 0), 1);
        x.hours(1);
        Due.is("limp 1 in hour 1010", x.porterIs(0, 0), 9);
        Due.is("limp 9 in hour 1010", x.porterIs(8, 0), 1);
    }

    /** "from YARD 19 it arrives: its BOWL is gold in THE MINT (0 then)". */
    private static void arrives() {
        DustMint x = Due.mint("l3(1=1)");
        x.porter(0, 19, 100, 0, 0);
        x.porter(1, 18, 50, 0, 0);
        x.porter(2, 19, 7, 1, 0);
        x.porter(8, 19, 2, 0, 0);
        Due.is("lost ahead of the way up", x.hour(0), 11);
        int[][] due = {{20, 0}, {19, 47}, {19, 4}, {0, 0}, {0, 0}, {0, 0}, {0, 0}, {0, 0}, {20, 0}};
        for (int p : new int[] {0, 1, 2, 8}) {
            Due.is("yard of " + p, x.porterIs(p, 0), due[p][0]);
            Due.is("bowl of " + p, x.porterIs(p, 1), due[p][1]);
        }
        Due.is("gold", x.count(4), 97);
        Due.is("an arrived one would lose nothing", x.porterIs(0, 4), 0);
        Due.is("the others lose", x.hour(0), 6);
        Due.is("gold of all", x.count(4), 97 + 44 + 1);
        Due.is("nobody loses", x.hours(40), 0);
        for (int p : new int[] {0, 1, 2, 8}) Due.is("nobody goes further", x.porterIs(p, 0), 20);
        Due.is("gold is gold once", x.count(4), 142);
        Due.is("told still", x.count(8), 1 | 2 | 4 | 256);
        // n counts those that have not arrived: not the ones at the mint, nor those elsewhere.
        x = Due.mint("ln(1=1)");
        x.porter(0, 19, 100, 0, 0);
        x.porter(1, 19, 100, 1, 0);
        x.porter(2, 18, 100, 1, 0);
        Due.is("two and one", x.hour(0), 5);
        Due.is("one and one", x.hour(0), 2);
    }

    /** "are moved to the YARD above it (WIND above 0), below it (WIND below 0); beyond both ends they are GONE". */
    private static void windEnds() {
        for (int wind = -3; wind <= 3; wind++) {
            for (int y = 0; y < 20; y++) {
                DustMint x = Due.mint("m7(1=1)");
                x.yard(y, 100, wind, false);
                x.hour(0);
                int to = y + Integer.signum(wind);
                String which = "wind " + wind + " at " + y;
                Due.is(which, x.yardIs(y, 0), wind == 0 ? 100 : 93);
                boolean isGone = to < 0 || to > 19;
                Due.is(which + ", gone", x.count(6), isGone ? 7 : 0);
                Due.is(which + ", all", x.count(7), isGone ? 93 : 100);
                if (!isGone && wind != 0) Due.is(which + ", moved", x.yardIs(to, 0), 7);
                Due.is(which + ", the wind stays", x.yardIs(y, 1), wind);
            }
        }
    }

    /** "what is above 99999, too": room for one more, for as many, for one less; from below, from above, from both. */
    private static void windFull() {
        for (int dust = 99990; dust <= 99999; dust++) {
            for (int from = 1; from <= 3; from++) {
                DustMint x = Due.mint("m4(1=1)");
                int come = 0;
                x.yard(10, dust, 0, false);
                if ((from & 1) != 0) come += Rig.bit(x.yard(9, 50, 2, false)) * 4;
                if ((from & 2) != 0) come += Rig.bit(x.yard(11, 50, -2, false)) * 4;
                x.hour(0);
                Due.is("come to " + dust, x.yardIs(10, 0), Math.min(99999, dust + come));
                Due.is("gone", x.count(6), Math.max(0, dust + come - 99999));
            }
        }
        // A full yard has room for what it gives away.
        for (int wind : new int[] {-1, 1}) {
            DustMint x = Due.mint("m4(y=10);m5(1=1)");
            x.yard(10, 99999, wind, false);
            x.yard(9, 50, 1, false);
            x.hour(0);
            Due.is("one more than room", x.yardIs(10, 0), 99999);
            Due.is("gone", x.count(6), 1);
        }
        // What has been moved can be washed and sieved in the same hour, at the end of which it is counted.
        DustMint x = Due.mint("m4(1=1);k4(y=10)");
        x.yard(10, 99999, 0, false);
        x.yard(9, 50, 1, false);
        x.hour(0);
        Due.is("gone ahead of the rain", x.count(6), 4);
        Due.is("washed", x.yardIs(10, 0), 99995);
    }

    /** "all reckoned ahead of any move". */
    private static void windAhead() {
        DustMint x = Due.mint("md(1=1)");
        for (int y = 0; y < 20; y++) x.yard(y, y + 1, 1, false);
        x.hour(0);
        for (int y = 0; y < 20; y++) Due.is("all up, at " + y, x.yardIs(y, 0), y);
        Due.is("all up, gone", x.count(6), 20);
        x = Due.mint("md(1=1)");
        for (int y = 0; y < 20; y++) x.yard(y, y + 1, -1, false);
        x.hour(0);
        for (int y = 0; y < 20; y++) Due.is("all down, at " + y, x.yardIs(y, 0), y < 19 ? y + 2 : 0);
        Due.is("all down, gone", x.count(6), 1);
        x = Due.mint("md(1=1)");
        x.yard(4, 30, 1, false);
        x.yard(5, 60, -1, false);
        x.hour(0);
        Due.is("changed places", x.yardIs(4, 0) * 100 + x.yardIs(5, 0), 6030);
        x.hour(0);
        Due.is("and again", x.yardIs(4, 0) * 100 + x.yardIs(5, 0), 3060);
    }

    /** "(4) Of each YARD k grains (as much as is there) go to THE RIVER": with rain and without, of each yard. */
    private static void washed() {
        DustMint x = Due.mint("k3(r=0);k5(1=1)");
        x.rain(1, 1);
        for (int y = 0; y < 20; y++) x.yard(y, y < 10 ? 100 : 4, 0, false);
        x.hour(0);
        Due.is("3 of each", x.count(5), 60);
        x.hour(0);
        Due.is("5 of ten, 1 of ten", x.count(5), 60 + 50 + 10);
        Due.is("left", x.count(7), 10 * 92);
    }

    /** "(5) Of each YARD with a LICENCE s grains (as much as is there) go to its BEGGAR's PURSE." */
    private static void sieved() {
        DustMint x = Due.mint("s3+b(1=1)");
        for (int y = 0; y < 20; y++) x.yard(y, 50, 0, false);
        x.licence(0, 0);
        x.licence(19, 5);
        x.licence(18, 5);
        x.hour(0);
        Due.is("yard 0", x.count(10), 3);
        Due.is("yards 18, 19", x.count(15), 16);
        for (int b = 1; b < 5; b++) Due.is("nothing to " + b, x.count(10 + b), 0);
        Due.is("nothing else", x.count(7), 1000 - 19);
    }

    /** Lost, then up, wind, rain, beggars: what one leaves the next one sees. */
    private static void order() {
        DustMint x = Due.mint("l10(1=1);m4(d=10);k3(d=6);s2(d=3)");
        x.yard(5, 0, 1, false);
        x.porter(0, 5, 50, 0, 0);
        x.licence(5, 1);
        x.hour(0);
        Due.is("one left", x.yardIs(5, 0), 1);
        Due.is("river", x.count(5), 3);
        Due.is("purse", x.count(11), 2);
        Due.is("the next yard", x.yardIs(6, 0), 4);
        Due.is("its porter has gone up", x.porterIs(0, 0), 6);
        // What arrives is what is left behind the loss; by numbers, each sees the dust of those before it.
        x = Due.mint("l1+d(1=1)");
        for (int p = 0; p < 4; p++) x.porter(p, 19, 50, 0, 0);
        Due.is("1, 2, 4, 8", x.hour(0), 15);
        for (int p = 0; p < 4; p++) Due.is("by numbers: " + p, x.led(p, 19), 1 << p);
        Due.is("gold", x.count(4), 185);
    }

    /** As many grains as 512 calls can move: each hour 99 by all nine, by the wind, by rain and by a beggar. */
    private static void most() {
        DustMint x = Due.mint("l99(1=1);m99(1=1);k99(1=1);s99(1=1)");
        for (int y = 0; y < 20; y++) x.yard(y, 99999, y < 10 ? -1 : 1, false);
        for (int y = 0; y < 20; y++) x.licence(y, 5);
        int all = 20 * 99999;
        for (int i = 0; i < 40; i++) {
            for (int p = 0; p < 9; p++) x.porter(p, 0, 9999, 9, 0);
            all += 9 * 9999;
            Due.is("lost in 9 hours", x.hours(9), 9 * 9 * 99);
            all -= 9 * (9999 - 9 * 99);
        }
        int left = x.count(4) + x.count(5) + x.count(6) + x.count(7) + x.count(15);
        Due.is("no grain is lost or made", left, all);
        Due.is("led", x.led(NONE, 0) + x.led(NONE, 1), 40 * 9 * 9 * 99);
    }

    /** "(6) THE HOUR is one more." */
    private static void hourIsOneMore() {
        DustMint x = Due.mint("lt(1=1)");
        for (int h = 0; h < 12; h++) {
            x.porter(0, 0, 100, 0, 0);
            Due.is("THE HOUR", x.count(0), h);
            Due.is("t", x.hour(h % 10), h);
        }
        x.hours(1);
        Due.is("THE HOUR by a draw", x.count(0), 13);
    }
}
