import java.util.Map;

/**
 * Boundaries of what is told to a hill: promises 1 to 6 and 24, and the bounds of YARDS, DUST, WIND, BEGGARS, PORTERS,
 * BOWL, LIMP, SNEEZE, RAIN and HOURS in the Terms. What is quoted is the document's.
 */
public final class SettingEdgesTest {
    private static final int NONE = DustMint.NONE;
    private static final Rig RIG = Rig.ofNumbers();

    public static void main(String[] args) {
        newObject();
        twoObjects();
        yardNumbers();
        yardDust();
        yardWind();
        rain();
        laterRain();
        porterNumbers();
        porterCarries();
        porterReplaced();
        licence();
        skill();
        seed();
        Due.end();
    }

    /** "No PORTERS, LAW, LICENCES; THE SEED 1."; "0 at first", "none at first" in the Terms. */
    private static void newObject() {
        Map<String, Integer> seen = Rig.seen(new DustMint());
        for (String what : seen.keySet()) {
            int due = what.startsWith("porterIs") ? NONE : what.matches("yardIs \\d+ 3") ? 6 : what.equals("count 3") ? 1 : 0;
            Due.is("new: " + what, seen.get(what), due);
        }
        DustMint x = new DustMint();
        Due.is("new: nothing kept", x.undo(), false);
        Due.is("new: no byte for a law", x.law(1), NONE);
        Due.is("new: no byte for grains", x.shook(0, 1, NONE), NONE);
        Due.is("new: no number to check", x.check(1), -2);
        x.porter(0, 18, 100, 0, 5);
        x.yard(0, 50, -3, false);
        x.yard(19, 50, 3, false);
        x.licence(0, 0);
        x.skill(0, 9);
        x.rain(0, 9);
        Due.is("new: without a law nothing is lost", x.hours(2), 0);
        Due.is("new: nothing is moved, washed or sieved", x.count(7) * 1000 + x.count(6) + x.count(5) + x.count(10), 100000);
        Due.is("new: what is carried arrives", x.count(4), 100);
    }

    /** "All memory is the hill's own": what is told to one object is not seen by another. */
    private static void twoObjects() {
        DustMint first = new DustMint();
        DustMint other = new DustMint();
        DustMint full = RIG.made();
        full.keep();
        other.feed(1, 2, 3, 4, 5);
        Rig.same("beside others", Rig.seen(first), Rig.seen(new DustMint()));
        Due.is("beside others, nothing kept", first.undo(), false);
        Due.is("beside others, no tape", first.check(1), -2);
        Due.is("beside others, the tape", other.count(2), 20);
        Rig.same("beside others, the full one", Rig.seen(full), Rig.seen(RIG.made()));
    }

    /** "YARDS 0 to 19"; yard: "true; false: no such ones". */
    private static void yardNumbers() {
        for (int y : new int[] {0, 19}) {
            int others = RIG.was("count 7") - RIG.was("yardIs " + y + " 0");
            RIG.changes("yard " + y, x -> Rig.bit(x.yard(y, 7, 2, true)), 1, "yardIs " + y + " 0", 7, "yardIs " + y + " 1", 2,
                "yardIs " + y + " 2", 1, "count 7", others + 7);
        }
        for (int y : Rig.outside(0, 19)) RIG.unchanged("yard " + y, x -> Rig.bit(x.yard(y, 7, 2, true)), 0);
    }

    /** "DUST (0 to 99999 grains; 0 at first)". */
    private static void yardDust() {
        int others = RIG.was("count 7") - RIG.was("yardIs 7 0");
        for (int dust : new int[] {0, 1, 99998, 99999}) {
            RIG.changes("dust " + dust, x -> Rig.bit(x.yard(7, dust, 0, false)), 1, "yardIs 7 0", dust, "count 7", others + dust);
        }
        for (int dust : Rig.outside(0, 99999)) RIG.unchanged("dust " + dust, x -> Rig.bit(x.yard(7, dust, -2, true)), 0);
        DustMint x = new DustMint();
        for (int y = 0; y < 20; y++) x.yard(y, 99999, 0, false);
        Due.is("all yards full", x.count(7), 1999980);
    }

    /** "a WIND (-3 to 3; 0 at first), a CARPET or none". */
    private static void yardWind() {
        int dust = RIG.was("yardIs 7 0");
        for (int wind = -3; wind <= 3; wind++) {
            int w = wind;
            RIG.changes("wind " + wind, x -> Rig.bit(x.yard(7, dust, w, true)), 1, "yardIs 7 1", w, "yardIs 7 2", 1);
        }
        for (int wind : Rig.outside(-3, 3)) RIG.unchanged("wind " + wind, x -> Rig.bit(x.yard(7, 1, wind, true)), 0);
        int dust4 = RIG.was("yardIs 4 0");
        RIG.changes("no carpet", x -> Rig.bit(x.yard(4, dust4, 2, false)), 1, "yardIs 4 2", 0);
    }

    /** "RAIN of HOURS 0 to 99 (0 to 9; 0 at first ..)"; rain: "true; false: no such ones". */
    private static void rain() {
        for (int h : new int[] {0, 1, 98, 99}) {
            for (int n : new int[] {0, 1, 8, 9}) {
                RIG.changes("rain " + h + " " + n, x -> Rig.bit(x.rain(h, n)), 1, "count " + (100 + h), n);
            }
        }
        for (int h : Rig.outside(0, 99)) RIG.unchanged("rain at " + h, x -> Rig.bit(x.rain(h, 5)), 0);
        for (int n : Rig.outside(0, 9)) RIG.unchanged("rain of " + n, x -> Rig.bit(x.rain(6, n)), 0);
    }

    /** "of later ones 0": hour 99 is the last that has rain. */
    private static void laterRain() {
        DustMint x = Due.mint("l50+r(1=1);kr(1=1)");
        for (int h = 0; h < 100; h++) x.rain(h, h == 98 ? 4 : 9);
        x.yard(19, 99999, 0, false);
        x.porter(0, 0, 9999, 0, 0);
        x.hours(40);
        x.hours(40);
        x.hours(18);
        x.porter(1, 0, 9999, 9, 0);
        int[] due = {54, 59, 50, 50};
        for (int i = 0; i < due.length; i++) {
            Due.is("hour", x.count(0), 98 + i);
            Due.is("rain at " + (98 + i), x.porterIs(1, 4), due[i]);
            int river = x.count(5);
            Due.is("lost at " + (98 + i), x.hour(0), due[i]);
            // Washed at yards 0 and 19, and where porter 0 lost something in hours 0 to 19 (yards 0 to 19 of it).
            Due.is("washed at " + (98 + i), x.count(5) > river, due[i] > 50);
        }
        for (int i = 0; i < 12; i++) x.hours(40);
        x.porter(1, 0, 9999, 9, 0);
        Due.is("far later", x.porterIs(1, 4), 50);
        Due.is("the hour is told on", x.count(0), 102 + 480);
    }

    /** "PORTERS 0 to 8"; porter: "(in place of the one before; YARD 0 to 19): true; false: no such ones". */
    private static void porterNumbers() {
        // Yard 10 has no dust: 3 + the limp + its number, and 20 more by a sneeze at 5.
        RIG.changes("porter 0", x -> Rig.bit(x.porter(0, 10, 100, 1, 5)), 1, "porterIs 0 0", 10, "porterIs 0 1", 100,
            "porterIs 0 2", 1, "porterIs 0 3", 5, "porterIs 0 4", 24);
        RIG.changes("porter 8", x -> Rig.bit(x.porter(8, 10, 100, 1, 4)), 1, "porterIs 8 0", 10, "porterIs 8 1", 100,
            "porterIs 8 2", 1, "porterIs 8 3", 4, "porterIs 8 4", 12);
        RIG.changes("a new one", x -> Rig.bit(x.porter(7, 10, 100, 1, 6)), 1, "porterIs 7 0", 10, "porterIs 7 1", 100,
            "porterIs 7 2", 1, "porterIs 7 3", 6, "porterIs 7 4", 11, "count 8", Rig.TOLD | 1 << 7);
        for (int p : Rig.outside(0, 8)) RIG.unchanged("porter " + p, x -> Rig.bit(x.porter(p, 10, 100, 1, 5)), 0);
        for (int y : new int[] {0, 19}) {
            int lost = RIG.was("yardIs " + y + " 0") < 500 ? 11 : 1;
            RIG.changes("porter at " + y, x -> Rig.bit(x.porter(7, y, 100, 1, 6)), 1, "porterIs 7 0", y, "porterIs 7 1", 100,
                "porterIs 7 2", 1, "porterIs 7 3", 6, "porterIs 7 4", lost, "count 8", Rig.TOLD | 1 << 7);
        }
        for (int y : Rig.outside(0, 19)) RIG.unchanged("porter at " + y, x -> Rig.bit(x.porter(8, y, 100, 1, 5)), 0);
        for (int y : Rig.outside(0, 19)) RIG.unchanged("a new one at " + y, x -> Rig.bit(x.porter(7, y, 100, 1, 5)), 0);
    }

    /** "a BOWL (0 to 9999 grains), a LIMP (0 to 9), a SNEEZE (0 to 9)". */
    private static void porterCarries() {
        for (int bowl : new int[] {0, 1, 9998, 9999}) {
            // Porter 8 stays at yard 12 with its limp of 9 and its sneeze of 9: it would lose 3 + 9 + 8.
            RIG.changes("bowl " + bowl, x -> Rig.bit(x.porter(8, 12, bowl, 9, 9)), 1, "porterIs 8 1", bowl,
                "porterIs 8 4", Math.min(bowl, 20));
        }
        for (int bowl : Rig.outside(0, 9999)) RIG.unchanged("bowl " + bowl, x -> Rig.bit(x.porter(8, 1, bowl, 2, 2)), 0);
        int bowl = RIG.was("porterIs 8 1");
        for (int limp : new int[] {0, 1, 8, 9}) {
            RIG.changes("limp " + limp, x -> Rig.bit(x.porter(8, 12, bowl, limp, 9)), 1, "porterIs 8 2", limp,
                "porterIs 8 4", 11 + limp);
        }
        for (int limp : Rig.outside(0, 9)) RIG.unchanged("limp " + limp, x -> Rig.bit(x.porter(8, 1, 2, limp, 2)), 0);
        for (int sneeze = 0; sneeze <= 9; sneeze++) {
            int z = sneeze;
            RIG.changes("sneeze " + z, x -> Rig.bit(x.porter(8, 12, bowl, 9, z)), 1, "porterIs 8 3", z,
                "porterIs 8 4", z == 5 ? 40 : 20);
        }
        for (int z : Rig.outside(0, 9)) RIG.unchanged("sneeze " + z, x -> Rig.bit(x.porter(8, 1, 2, 2, z)), 0);
    }

    /** "(in place of the one before ..)": one that has arrived is on the hill again, and what was gold stays gold. */
    private static void porterReplaced() {
        DustMint x = Due.mint("l1(1=1)");
        x.porter(2, 19, 10, 0, 0);
        x.hour(0);
        Due.is("arrived", x.porterIs(2, 0), 20);
        x.porter(2, 19, 30, 0, 0);
        Due.is("again on the hill", x.porterIs(2, 0), 19);
        Due.is("gold stays", x.count(4), 9);
        x.hour(0);
        Due.is("more gold", x.count(4), 38);
        Due.is("told once", x.count(8), 4);
        Due.is("led to both", x.led(2, 19), 2);
    }

    /** "a LICENCE: a BEGGAR (0 to 5) or none (at first)"; licence: "(NONE: nobody's): true; false: no such ones". */
    private static void licence() {
        for (int y : new int[] {0, 19}) {
            for (int b : new int[] {0, 5}) {
                RIG.changes("licence " + y + " " + b, x -> Rig.bit(x.licence(y, b)), 1, "yardIs " + y + " 3", b);
            }
        }
        RIG.changes("nobody's", x -> Rig.bit(x.licence(4, NONE)), 1, "yardIs 4 3", 6);
        RIG.changes("nobody's still", x -> Rig.bit(x.licence(5, NONE)), 1, "yardIs 5 3", 6);
        RIG.changes("another one's", x -> Rig.bit(x.licence(4, 4)), 1, "yardIs 4 3", 4);
        for (int y : Rig.outside(0, 19)) RIG.unchanged("licence at " + y, x -> Rig.bit(x.licence(y, 3)), 0);
        for (int b : Rig.outside(NONE, 5)) RIG.unchanged("licence of " + b, x -> Rig.bit(x.licence(4, b)), 0);
        for (int y : Rig.outside(0, 19)) RIG.unchanged("nobody's at " + y, x -> Rig.bit(x.licence(y, NONE)), 0);
    }

    /** "BEGGARS: SKILL (0 to 9; 0 at first)"; skill: "true; false: no such ones". */
    private static void skill() {
        for (int b : new int[] {0, 1, 4, 5}) {
            for (int n : new int[] {0, 1, 8, 9}) {
                RIG.changes("skill " + b + " " + n, x -> Rig.bit(x.skill(b, n)), 1, "count " + (20 + b), n);
            }
        }
        for (int b : Rig.outside(0, 5)) RIG.unchanged("skill of " + b, x -> Rig.bit(x.skill(b, 1)), 0);
        for (int n : Rig.outside(0, 9)) RIG.unchanged("skill " + n, x -> Rig.bit(x.skill(1, n)), 0);
    }

    /** "THE SEED (0 to 65535; X, too): true; false: no such number." */
    private static void seed() {
        for (int n : new int[] {0, 1, 65534, 65535}) RIG.changes("seed " + n, x -> Rig.bit(x.seed(n)), 1, "count 3", n);
        for (int n : Rig.outside(0, 65535)) RIG.unchanged("seed " + n, x -> Rig.bit(x.seed(n)), 0);
    }
}
