/** Each promise by hand: ordinary inputs, the edges that the document names, wrong inputs. */
public final class PromiseTest {
    private static final int NONE = DustMint.NONE;
    private static final int[] FAR = {Integer.MIN_VALUE, -1000, -3, 1000000, Integer.MAX_VALUE};

    public static void main(String[] args) {
        newObject();
        yard();
        rain();
        porter();
        licence();
        skill();
        feed();
        hours();
        hour();
        wind();
        yardIs();
        porterIs();
        tried();
        Due.is("NONE", DustMint.NONE, -1);
        SearchPromises.all();
        Due.end();
    }

    private static void newObject() {
        DustMint x = new DustMint();
        for (int what = 0; what <= 8; what++) Due.is("new count " + what, x.count(what), what == 3 ? 1 : 0);
        for (int b = 0; b < 6; b++) Due.is("new beggar " + b, x.count(10 + b) + x.count(20 + b), 0);
        for (int h = 0; h < 100; h++) Due.is("new rain " + h, x.count(100 + h), 0);
        for (int y = 0; y < 20; y++) {
            for (int what = 0; what < 4; what++) Due.is("new yard " + y, x.yardIs(y, what), what == 3 ? 6 : 0);
        }
        for (int p = 0; p < 9; p++) Due.is("new porter " + p, x.porterIs(p, 0), NONE);
        Due.is("nothing led", x.led(NONE, NONE), 0);
        Due.is("nothing kept", x.undo(), false);
        x.porter(0, 0, 100, 0, 0);
        Due.is("no law", x.hours(40), 0);
        Due.is("arrived without a loss", x.count(4), 100);
    }

    private static void yard() {
        DustMint x = new DustMint();
        x.licence(3, 2);
        Due.is("a yard", x.yard(3, 12, -3, true), true);
        for (int y : new int[] {-1, 20}) Due.is("yard " + y, x.yard(y, 1, 1, false), false);
        for (int y : FAR) Due.is("yard " + y, x.yard(y, 1, 1, false), false);
        for (int dust : new int[] {-1, 100000, Integer.MIN_VALUE, Integer.MAX_VALUE}) Due.is("dust", x.yard(3, dust, 1, false), false);
        for (int wind : new int[] {-4, 4, Integer.MIN_VALUE, Integer.MAX_VALUE}) Due.is("wind", x.yard(3, 1, wind, false), false);
        Due.is("dust stays", x.yardIs(3, 0), 12);
        Due.is("wind stays", x.yardIs(3, 1), -3);
        Due.is("carpet stays", x.yardIs(3, 2), 1);
        Due.is("licence stays", x.yardIs(3, 3), 2);
        Due.is("edges", x.yard(0, 0, -3, false) && x.yard(19, 99999, 3, true), true);
        Due.is("most dust", x.yardIs(19, 0), 99999);
        Due.is("most wind", x.yardIs(19, 1), 3);
        Due.is("again", x.yard(3, 1, 0, false), true);
        Due.is("no carpet", x.yardIs(3, 2), 0);
        Due.is("all dust", x.count(7), 100000);
    }

    private static void rain() {
        DustMint x = Due.mint("kr(1=1)");
        x.yard(0, 1000, 0, false);
        Due.is("rain", x.rain(0, 9) && x.rain(99, 7) && x.rain(1, 0), true);
        for (int h : new int[] {-1, 100, Integer.MIN_VALUE, Integer.MAX_VALUE}) Due.is("rain at " + h, x.rain(h, 1), false);
        for (int n : new int[] {-1, 10, Integer.MIN_VALUE, Integer.MAX_VALUE}) Due.is("rain of " + n, x.rain(0, n), false);
        Due.is("rain stays", x.count(100), 9);
        Due.is("rain of 99", x.count(199), 7);
        x.hours(1);
        Due.is("washed by 9", x.count(5), 9);
        x.hours(1);
        Due.is("washed by 0", x.count(5), 9);
        x.hours(40);
        x.hours(40);
        x.hours(17);
        Due.is("hour 99", x.count(0), 99);
        Due.is("not yet", x.count(5), 9);
        x.hours(1);
        Due.is("washed by 7", x.count(5), 16);
        x.hours(40);
        Due.is("no rain later", x.count(5), 16);
        Due.is("what is left", x.yardIs(0, 0), 984);
        x = Due.mint("k99(1=1)");
        x.yard(7, 50, 0, false);
        x.hour(0);
        Due.is("as much as is there, without rain too", x.count(5), 50);
        Due.is("none is left", x.yardIs(7, 0), 0);
    }

    private static void porter() {
        DustMint x = Due.mint("l5(1=1)");
        Due.is("a porter", x.porter(8, 19, 9999, 9, 9), true);
        Due.is("a least one", x.porter(0, 0, 0, 0, 0), true);
        for (int p : new int[] {-1, 9, Integer.MIN_VALUE, Integer.MAX_VALUE}) Due.is("p " + p, x.porter(p, 1, 1, 1, 1), false);
        for (int y : new int[] {-1, 20, Integer.MIN_VALUE, Integer.MAX_VALUE}) Due.is("yard " + y, x.porter(8, y, 1, 1, 1), false);
        for (int g : new int[] {-1, 10000, Integer.MIN_VALUE, Integer.MAX_VALUE}) Due.is("bowl " + g, x.porter(8, 1, g, 1, 1), false);
        for (int i : new int[] {-1, 10, Integer.MIN_VALUE, Integer.MAX_VALUE}) Due.is("limp " + i, x.porter(8, 1, 1, i, 1), false);
        for (int z : new int[] {-1, 10, Integer.MIN_VALUE, Integer.MAX_VALUE}) Due.is("sneeze " + z, x.porter(8, 1, 1, 1, z), false);
        int[] due = {19, 9999, 9, 9};
        for (int what = 0; what < 4; what++) Due.is("it stays", x.porterIs(8, what), due[what]);
        Due.is("told", x.count(8), 257);
        x.porter(1, 19, 12, 0, 0);
        x.hour(0);
        Due.is("arrived", x.porterIs(1, 0), 20);
        Due.is("its gold", x.count(4), 7);
        Due.is("told still", x.count(8), 259);
        Due.is("another one in its place", x.porter(1, 3, 4, 0, 0), true);
        Due.is("it is there", x.porterIs(1, 0), 3);
        Due.is("it loses what it has", x.hour(0), 9);
        Due.is("its bowl is empty", x.porterIs(1, 1), 0);
        Due.is("what was led to the one before stays", x.led(1, 19), 5);
        Due.is("gold stays", x.count(4), 7);
    }

    private static void licence() {
        DustMint x = Due.mint("s3(1=1)");
        x.yard(4, 10, 0, false);
        Due.is("a licence", x.licence(4, 5), true);
        for (int y : new int[] {-1, 20, Integer.MIN_VALUE, Integer.MAX_VALUE}) Due.is("yard " + y, x.licence(y, 0), false);
        for (int b : new int[] {-2, 6, Integer.MIN_VALUE, Integer.MAX_VALUE}) Due.is("beggar " + b, x.licence(4, b), false);
        Due.is("it stays", x.yardIs(4, 3), 5);
        x.hour(0);
        Due.is("sieved", x.count(15), 3);
        Due.is("another one's", x.licence(4, 0), true);
        x.hour(0);
        Due.is("sieved by the other one", x.count(10) * 10 + x.count(15), 33);
        Due.is("nobody's", x.licence(4, NONE), true);
        Due.is("6", x.yardIs(4, 3), 6);
        x.hour(0);
        Due.is("sieved by nobody", x.yardIs(4, 0), 4);
        x.licence(4, 0);
        x.hour(0);
        x.hour(0);
        Due.is("as much as is there", x.count(10), 7);
    }

    private static void skill() {
        DustMint x = Due.mint("sq(1=1)");
        Due.is("skill", x.skill(0, 9) && x.skill(5, 4) && x.skill(3, 0), true);
        for (int b : new int[] {-1, 6, Integer.MIN_VALUE, Integer.MAX_VALUE}) Due.is("beggar " + b, x.skill(b, 1), false);
        for (int n : new int[] {-1, 10, Integer.MIN_VALUE, Integer.MAX_VALUE}) Due.is("skill " + n, x.skill(0, n), false);
        Due.is("it stays", x.count(20), 9);
        x.yard(0, 99, 0, false);
        x.yard(1, 99, 0, false);
        x.licence(0, 0);
        x.licence(1, 5);
        x.hour(0);
        Due.is("by skill", x.count(10) * 10 + x.count(15), 94);
    }

    private static void feed() {
        DustMint x = new DustMint();
        for (int i = 1; i <= 11; i++) Due.is("fed " + i, x.feed(0, 1, 2, 3, 4), 20 * i);
        Due.is("too much", x.feed(9, 9, 9, 9, 9), NONE);
        Due.is("220 bytes", x.count(2), 220);
        for (int y = 0; y < 20; y++) x.yard(y, y % 5, 0, false);
        Due.is("in their order", x.check(20), NONE);
        Due.is("empty", x.count(2), 0);
        Due.is("fed again", x.feed(0x01020304, -1, 0, 0, 0), 20);
        x.yard(0, 1, 0, false);
        Due.is("the highest first", x.check(2), 0);
        x.feed(66051, 0, 0, 0, 0);
        x.yard(0, 66051, 0, false);
        Due.is("the lowest last", x.check(1), NONE);
    }

    private static void hours() {
        DustMint x = Due.mint("l10*z+1(1=1)");
        for (int n : new int[] {0, -1, 41, Integer.MIN_VALUE, Integer.MAX_VALUE}) Due.is("hours " + n, x.hours(n), NONE);
        Due.is("nothing passed", x.count(0), 0);
        Due.is("X stays", x.count(3), 1);
        // The draws from 1 on: 39022, 61087, 20196.
        x.porter(0, 0, 100, 0, 7);
        Due.is("lost", x.hours(3), 13);
        Due.is("X", x.count(3), 20196);
        Due.is("the hour", x.count(0), 3);
        int[] led = {1, 11, 1, 0};
        for (int y = 0; y < 4; y++) Due.is("led at " + y, x.led(0, y), led[y]);
        Due.is("40 hours", x.hours(40) >= 0, true);
        Due.is("the hour", x.count(0), 43);
    }

    private static void hour() {
        DustMint x = Due.mint("l2+d(1=1)");
        for (int draw : new int[] {-1, 10, Integer.MIN_VALUE, Integer.MAX_VALUE}) Due.is("draw " + draw, x.hour(draw), NONE);
        Due.is("nothing passed", x.count(0), 0);
        x.porter(5, 2, 100, 0, 0);
        x.porter(3, 2, 100, 0, 0);
        Due.is("by numbers, each seeing what was lost before", x.hour(9), 6);
        Due.is("3 first", x.led(3, 2), 2);
        Due.is("5 then", x.led(5, 2), 4);
        Due.is("X stays", x.count(3), 1);
        Due.is("the hour", x.count(0), 1);
        // Limps: up only if the hour modulo 10 is not below it.
        x = Due.mint("l0(1=1)");
        for (int p = 0; p < 9; p++) x.porter(p, 0, 1, p + 1, 0);
        x.porter(0, 0, 1, 0, 0);
        for (int h = 0; h < 25; h++) x.hour(0);
        // Hours 0 to 24: below a limp of i are min(i, 10) twice and min(i, 5) of the last five.
        for (int p = 1; p < 9; p++) {
            int limp = p + 1;
            int due = Math.min(20, 25 - 2 * limp - Math.min(limp, 5));
            Due.is("limp " + limp, x.porterIs(p, 0), due);
        }
        Due.is("no limp", x.porterIs(0, 0), 20);
        // A bowl that holds less than the law takes; dust that finds no room.
        x = Due.mint("l50(1=1)");
        x.yard(19, 99990, 0, false);
        x.porter(0, 19, 30, 0, 0);
        Due.is("as much as is there", x.hour(0), 30);
        Due.is("held to 99999", x.yardIs(19, 0), 99999);
        Due.is("the rest is gone", x.count(6), 21);
        Due.is("all is led", x.led(0, 19), 30);
        Due.is("nothing arrived", x.count(4), 0);
    }

    private static void wind() {
        DustMint x = Due.mint("m10+y(1=1)");
        x.yard(0, 5, -1, false);
        x.yard(19, 100, 3, false);
        x.yard(10, 100, 2, false);
        x.yard(11, 100, -2, false);
        x.yard(15, 100, 0, false);
        x.hour(0);
        Due.is("as much as is there, beyond the foot", x.yardIs(0, 0), 0);
        Due.is("beyond the top", x.yardIs(19, 0), 71);
        Due.is("gone", x.count(6), 34);
        Due.is("up", x.yardIs(11, 0), 99);
        Due.is("down", x.yardIs(10, 0), 101);
        Due.is("no wind", x.yardIs(15, 0), 100);
        // All reckoned ahead of any move: nothing goes two yards, and what leaves makes room.
        x = Due.mint("md(1=1)");
        x.yard(3, 40, 1, false);
        x.yard(4, 0, 1, false);
        x.hour(0);
        Due.is("one yard only", x.yardIs(4, 0), 40);
        x = Due.mint("m5+y(1=1)");
        x.yard(3, 99999, 1, false);
        x.yard(4, 99999, 1, false);
        x.yard(5, 99999, 0, false);
        x.hour(0);
        Due.is("4 gives 9 and gets 8", x.yardIs(4, 0), 99998);
        Due.is("5 is full", x.yardIs(5, 0), 99999);
        Due.is("what found no room", x.count(6), 9);
        // The order of the hour: lost, up, wind, rain, beggars.
        x = Due.mint("l8(1=1);m6(1=1);k3(1=1);s99(t=0&q=0)");
        x.porter(0, 6, 50, 0, 0);
        x.yard(6, 0, 1, false);
        x.licence(7, 1);
        x.hour(0);
        Due.is("at 6", x.yardIs(6, 0), 0);
        Due.is("at 7", x.yardIs(7, 0), 0);
        Due.is("river", x.count(5), 5);
        Due.is("purse", x.count(11), 3);
        Due.is("porter", x.porterIs(0, 0), 7);
    }

    private static void yardIs() {
        DustMint x = new DustMint();
        x.yard(19, 5, -1, true);
        x.licence(19, 0);
        int[] due = {5, -1, 1, 0};
        for (int what = 0; what < 4; what++) Due.is("yard", x.yardIs(19, what), due[what]);
        for (int y : new int[] {-1, 20, Integer.MIN_VALUE, Integer.MAX_VALUE}) Due.is("yard " + y, x.yardIs(y, 0), -1000);
        for (int what : new int[] {-1, 4, Integer.MIN_VALUE, Integer.MAX_VALUE}) Due.is("what " + what, x.yardIs(19, what), -1000);
    }

    private static void porterIs() {
        DustMint x = Due.mint("l3+z*4(1=1)");
        x.porter(2, 7, 100, 1, 5);
        x.porter(4, 7, 2, 1, 4);
        int[] due = {7, 100, 1, 5, 7};
        for (int what = 0; what < 5; what++) Due.is("porter", x.porterIs(2, what), due[what]);
        Due.is("as much as is there", x.porterIs(4, 4), 2);
        for (int p : new int[] {-1, 0, 8, 9, 33, 34, Integer.MIN_VALUE, Integer.MAX_VALUE}) Due.is("porter " + p, x.porterIs(p, 0), NONE);
        for (int what : new int[] {-1, 5, Integer.MIN_VALUE, Integer.MAX_VALUE}) Due.is("what " + what, x.porterIs(2, what), NONE);
        x.porter(8, 19, 50, 0, 5);
        x.hour(0);
        int[] arrived = {20, 0, 0, 5, 0};
        for (int what = 0; what < 5; what++) Due.is("arrived", x.porterIs(8, what), arrived[what]);
    }

    private static void tried() {
        DustMint x = Due.mint("l10*z+1(1=1);m1(1=1);k2(r>0);s1(1=1)");
        x.porter(0, 18, 100, 0, 7);
        x.porter(1, 3, 100, 9, 9);
        x.yard(0, 5, -1, false);
        x.yard(4, 9, 0, false);
        x.licence(4, 5);
        x.rain(1, 1);
        // Draws 2, 7: porter 0 loses 1 at 18 and 11 at 19, porter 1 loses 1 at 3 twice.
        int[] first = {88, 2 + 2 + 1 + 2 + 2, 2, 14};
        // Hour 1 washes 2 of each of yards 0 (3 left), 3 (2), 4 (8), 18 (1), 19 (11).
        for (int what = 0; what < 4; what++) Due.is("tried " + what, x.tried(2, what), first[what]);
        Due.is("bowl", x.tried(2, 11), 98);
        Due.is("bowl that arrived", x.tried(2, 10), 0);
        Due.is("yard", x.tried(2, 21), 3);
        Due.is("arrived", x.tried(2, 20), 20);
        Due.is("purse", x.tried(2, 35), 2);
        Due.is("an empty one", x.tried(2, 30), 0);
        Due.is("dust", x.tried(2, 44), 5);
        Due.is("dust of 0", x.tried(2, 40), 1);
        Due.is("dust of 19", x.tried(2, 59), 9);
        for (int n : new int[] {0, -1, 41, Integer.MIN_VALUE, Integer.MAX_VALUE}) Due.is("n " + n, x.tried(n, 0), NONE);
        for (int what : new int[] {-1, 4, 9, 12, 18, 19, 22, 28, 29, 36, 39, 60, Integer.MIN_VALUE, Integer.MAX_VALUE}) {
            Due.is("what " + what, x.tried(1, what), NONE);
        }
        Due.is("nothing is changed", x.count(0) + x.count(4) + x.count(5) + x.count(6) + x.led(NONE, NONE), 0);
        Due.is("X stays", x.count(3), 1);
        Due.is("dust stays", x.count(7), 14);
        Due.is("the porter stays", x.porterIs(0, 0), 18);
        Due.is("40 hours", x.tried(40, 3) > 0, true);
        Due.is("so it comes", x.hours(2), 14);
        Due.is("so does the gold", x.count(4), 88);
    }
}
