import java.util.Random;

/** THE LAW: what may stand where, its faults, and what it answers (promise 8 and the terms). */
public final class LawTest {
    private static final int DRAWN_TEXTS = 60000;

    public static void main(String[] args) {
        faults();
        limits();
        numbers();
        conditions();
        letters();
        refusals();
        clauses();
        drawnTexts();
        Due.end();
    }

    private static void judged(String text, int due) {
        Due.is("law " + text, Due.law(new DustMint(), text), due);
    }

    private static void faults() {
        judged("l1(1=1)", 1);
        judged("l1(1=1);m2(d>0);k3(r<9);s4(q=1)", 4);
        judged(" ", -1000);
        judged("x1(1=1)", -1000);
        judged("L1(1=1)", -1000);
        judged("l", -1001);
        judged("l1", -1002);
        judged("l1(", -1003);
        judged("l1(1", -1004);
        judged("l1(1=", -1005);
        judged("l1(1=1", -1006);
        judged("l1(1=1);", -1008);
        judged("l1(1=1);;", -1008);
        judged("l1(1=1) ", -1007);
        judged("l1 (1=1)", -1002);
        judged("l1(1=1)l1(1=1)", -1007);
        judged("l(1=1)", -1001);
        judged("l1()", -1003);
        judged("l1(1)", -1004);
        judged("l1(1=1=1)", -1006);
        judged("l1((1=1)=1)", -1008);
        judged("l1((1)=1)", -1005);
        judged("l1(1=(1))", -1005);
        judged("l1([1=1])", -1005);
        judged("l[1](1=1)", 1);
        judged("l[](1=1)", -1002);
        judged("l[1)(1=1)", -1003);
        judged("l1](1=1)", -1002);
        judged("l-1(1=1)", -1001);
        judged("l1--1(1=1)", -1003);
        judged("l1+(1=1)", -1003);
        judged("lyd(1=1)", -1002);
        judged("ly1(1=1)", -1002);
        judged("l1y(1=1)", -1002);
        judged("l[1]2(1=1)", -1004);
        judged("la(1=1)", -1001);
        judged("l1(1!1)", -1004);
        judged("l1(!1)", -1005);
        judged("l1(1=!1=1)", -1005);
        judged("l1(!1=1)", 1);
        judged("l1(!!(1=1))", 1);
        judged("l1(1=1&)", -1007);
        judged("l1(|1=1)", -1003);
        judged("l1(1=1&1=1|1=1)", 1);
        judged("l1(1=1&&1=1)", -1007);
        judged("l1((1=1)1=1)", -1008);
        judged("l1(1=1))", -1007);
        judged("l1\u00e9(1=1)", -1002);
        judged("l1\u0000(1=1)", -1002);
        judged("\u00ff", -1000);
        judged("l99999(1=1)", 1);
        judged("l00000(1=1)", 1);
        judged("l123456(1=1)", -2006);
        judged("l000000(1=1)", -2006);
        judged("l1(1=123456)", -2010);
        judged("l12345x", -1006);
    }

    private static String times(String text, int n) {
        return text.repeat(n);
    }

    private static void limits() {
        String clause = "l1(1=1)";
        judged(times(clause + ";", 13) + clause, 14);
        judged(times(clause + ";", 14) + clause, -4112);
        judged(times(clause + ";", 14), -1112);
        judged(times(clause + ";", 14) + "x", -1112);
        judged(times(clause + ";", 14) + "s", -4112);
        judged(times(clause + ";", 13) + clause + "k", -1111);
        judged("l" + times("[", 6) + "1" + times("]", 6) + "(1=1)", 1);
        judged("l" + times("[", 7) + "1" + times("]", 7) + "(1=1)", -5007);
        judged("l[[[[[[1]+[1]]]]]](1=1)", 1);
        judged("l[[[[[[1+[1]]]]]]](1=1)", -5009);
        judged("l1" + times("(", 6) + "1=1" + times(")", 6), 1);
        judged("l1" + times("(", 7) + "1=1" + times(")", 7), -5008);
        judged("l1(" + times("!", 5) + "1=1)", 1);
        judged("l1(" + times("!", 6) + "1=1)", -5008);
        judged("l1(" + times("[", 5) + "1" + times("]", 5) + "=1)", 1);
        judged("l1(" + times("[", 6) + "1" + times("]", 6) + "=1)", -5008);
        judged("l1(!(![[1]]=1))", 1);
        judged("l1(!(![[[1]]]=1))", -5008);
        // A ! is closed with its piece: those behind it are not open in it.
        judged("l1(!!!!!1=1&!!!!!1=1|!!!!!(1=1)", -5026);
        judged("l1(!!!!!1=1&!!!!!1=1|!!!!(1=1))", 1);
        judged("l1(!!!!!1=[1])", -5010);
        judged("l1(!!!!1=[1])", 1);
        // What can't stand there is told ahead of what is one too many.
        judged("l" + times("[", 6) + "(", -1007);
        judged("l1(" + times("(", 5) + "1[", -1009);
        String longest = "l" + times("1+", 96) + "1(1=1)";
        judged(longest + "", 1);
        Due.is("199 signs", longest.length(), 199);
        judged("l" + times("1+", 96) + "11(1=1)", 1);
    }

    /** What a lone porter with a full bowl loses at yard 3 with 7 grains, wind -2, hour 0. */
    private static int lost(String text) {
        DustMint x = Due.mint(text);
        x.yard(3, 7, -2, false);
        x.porter(4, 3, 9999, 2, 6);
        return x.porterIs(4, 4);
    }

    private static void lost(String text, int due) {
        Due.is("lost by " + text, lost(text), due);
    }

    private static void numbers() {
        lost("l12(1=1)", 12);
        lost("l00012(1=1)", 12);
        lost("l99(1=1)", 99);
        lost("l100(1=1)", 99);
        lost("l99999(1=1)", 99);
        lost("l0-1(1=1)", 0);
        lost("l20-5-3(1=1)", 12);
        lost("l20-[5-3](1=1)", 18);
        lost("l2+3*4(1=1)", 14);
        lost("l[2+3]*4(1=1)", 20);
        lost("l100/7/2(1=1)", 7);
        lost("l100/7*2(1=1)", 28);
        lost("l100%7*5/3(1=1)", 3);
        lost("l17%10%4(1=1)", 3);
        lost("l9-7/2(1=1)", 6);
        // As the machine does: towards 0, the rest with the sign of what is divided, 32 bits.
        lost("l50+[0-7]/2(1=1)", 47);
        lost("l50+[0-7]%4(1=1)", 47);
        lost("l50+7%[0-4](1=1)", 53);
        lost("l50+7/[0-4](1=1)", 49);
        lost("l65536*65536+5(1=1)", 5);
        lost("l65536*32767+65535+1(1=1)", 0);
        lost("l[65536*32767+65535+2]/[0-65536]/328(1=1)", 99);
        lost("l5+[65536*32768]/[0-1]/[65536*16384](1=1)", 3);
        lost("l5+[65536*32768]%[0-1](1=1)", 5);
    }

    private static void conditions() {
        lost("l9(1<2)", 9);
        lost("l9(2<2)", 0);
        lost("l9(3>2)", 9);
        lost("l9(2>2)", 0);
        lost("l9(2=2)", 9);
        lost("l9(2=3)", 0);
        lost("l9(0-1<0)", 9);
        lost("l9(!2=3)", 9);
        lost("l9(!1<2)", 0);
        lost("l9(!2>1)", 0);
        lost("l9(!!2>1)", 9);
        lost("l9(!!2=3)", 0);
        lost("l9(!(1=1|1=2))", 0);
        lost("l9(1=2|1=1)", 9);
        lost("l9(1=1&1=2)", 0);
        lost("l9(1=1|1=1&1=2)", 9);
        lost("l9((1=1|1=1)&1=2)", 0);
        lost("l9(1=2&1=1|1=1)", 9);
        lost("l9(!1=1|1=1)", 9);
        lost("l9(!1=2&1=2)", 0);
        lost("l9(1=2|1=2|1=1|1=2)", 9);
        lost("l9(1=1&1=1&1=2&1=1)", 0);
        lost("l9(1=2&1=1&1=1|1=2|1=1&1=1)", 9);
        lost("l9(1+1=2&4-1>2*1)", 9);
    }

    private static void letters() {
        lost("ly(1=1)", 3);
        lost("ld(1=1)", 7);
        lost("l9+w(1=1)", 7);
        lost("l5+c(1=1)", 5);
        lost("l5+r(1=1)", 5);
        lost("l5+t(1=1)", 5);
        lost("lp(1=1)", 4);
        lost("lg/1000(1=1)", 9);
        lost("li(1=1)", 2);
        lost("l5+z(1=1)", 5);
        lost("ln(1=1)", 1);
        lost("l5+b+q(1=1)", 5);
        DustMint t = Due.mint("lt(n=1)");
        t.porter(0, 0, 9999, 9, 0);
        t.porter(1, 1, 9999, 9, 0);
        t.hours(7);
        Due.is("t", t.porterIs(0, 4), 7);
        t.porter(1, 19, 9999, 0, 0);
        t.porter(2, 19, 9999, 0, 0);
        t.hours(1);
        t.porter(3, 19, 9999, 0, 0);
        Due.is("n: those that have arrived don't count", t.porterIs(3, 4), 8);
        DustMint x = Due.mint("l1+z*8+c*30+r*2(n=2);l77(1=1)");
        x.yard(3, 0, 0, true);
        x.rain(0, 9);
        x.porter(0, 3, 9999, 0, 5);
        Due.is("n 1", x.porterIs(0, 4), 77);
        x.porter(1, 3, 9999, 0, 4);
        Due.is("z, c, r", x.porterIs(0, 4), 57);
        Due.is("no z", x.porterIs(1, 4), 49);
        x.porter(8, 3, 0, 0, 0);
        Due.is("n 3, with an empty bowl", x.porterIs(1, 4), 77);
        x = Due.mint("m1+p+g+i+z+n+b+q(1=1);k1+p+g+i+z+n+b+q(1=1);s1+p+g+i+z+n(1=1)");
        x.yard(3, 50, 1, false);
        x.licence(3, 5);
        x.skill(5, 9);
        x.porter(1, 3, 100, 9, 0);
        x.hour(0);
        Due.is("m sees no porter: one grain, washed away there", x.yardIs(4, 0), 0);
        Due.is("k sees no porter", x.count(5), 2);
        Due.is("s sees no porter", x.count(15), 1);
        x = Due.mint("sb*10+q(1=1)");
        x.yard(3, 99, 0, false);
        x.licence(3, 5);
        x.skill(5, 9);
        x.hour(0);
        Due.is("b, q", x.count(15), 59);
    }

    private static void refusals() {
        lost("l5/0(1=1)", 0);
        lost("l5%0(1=1)", 0);
        lost("l5+[1/c](1=1)", 0);
        lost("l5/0*0+7(1=1)", 0);
        lost("l5/0(1=1);l8(1=1)", 0);
        lost("l5(1/0=0);l8(1=1)", 8);
        lost("l5(1%0=0);l8(1=1)", 8);
        lost("l5(!1/0=0);l8(1=1)", 8);
        lost("l5(!(1/0=0));l8(1=1)", 8);
        lost("l5(1=1|1/0=0)", 5);
        lost("l5(1/0=0|1=1)", 0);
        lost("l5(1=2&1/0=0|1=1)", 5);
        lost("l5(1=1&1/0=0|1=1)", 0);
        lost("l5((1=1|1/0=1)&!(1=2&1/0=1))", 5);
        lost("l5((1/0=1|1=1)|1=1)", 0);
    }

    private static void clauses() {
        lost("m9(1=1)", 0);
        lost("l1(y=2);l2(y=3);l3(y=3)", 2);
        lost("m9(1=1);k8(1=1);s7(1=1);l6(1=1)", 6);
        lost("l1(1=2);l2(1=2)", 0);
        DustMint x = Due.mint("l5(1=1)");
        x.porter(0, 0, 100, 0, 0);
        Due.is("a fault", Due.law(x, "l6(1=1"), -1006);
        Due.is("the tape is empty behind a fault", x.count(2), 0);
        Due.is("the text before stays", x.porterIs(0, 4), 5);
        Due.is("its clauses stay", x.count(1), 1);
        Due.is("another text", Due.law(x, "l6(1=1);l7(1=1)"), 2);
        Due.is("in place of the one before", x.porterIs(0, 4), 6);
        Due.is("clauses", x.count(1), 2);
        Due.is("a shorter text", Due.law(x, "l6(1=2)"), 1);
        Due.is("nothing of the longer one", x.porterIs(0, 4), 0);
        Due.law(x, "l6(1=1)");
        Due.feed(x, 'l', '9', '(', '1', '=', '1', ')', 'x', 'x', 'x', 'x', 'x', 'x', 'x', 'x', 'x', 'x', 'x', 'x', 'x');
        for (int n : new int[] {0, -1, 21, 201, Integer.MAX_VALUE, Integer.MIN_VALUE}) Due.is("law " + n, x.law(n), -1);
        Due.is("the tape stays", x.count(2), 20);
        Due.is("the law stays", x.porterIs(0, 4), 6);
        Due.is("only the first bytes", x.law(7), 1);
        Due.is("all the tape is empty", x.count(2), 0);
        Due.is("by the first bytes", x.porterIs(0, 4), 9);
        for (int i = 0; i < 11; i++) x.feed(0, 0, 0, 0, 0);
        Due.is("201", x.law(201), -1);
        Due.is("200", x.law(200), -1000);
    }

    private static void drawnTexts() {
        Random random = new Random(7);
        Texts texts = new Texts(random);
        DustMint x = new DustMint();
        for (int i = 0; i < DRAWN_TEXTS; i++) {
            if (i % 20 == 0) x = new DustMint();
            String text = i % 2 == 0 ? texts.law() : texts.deep();
            if (text.length() > 200) text = text.substring(0, 200);
            if (i % 3 != 0) text = texts.spoilt(text);
            if (!text.isEmpty()) Due.is(text, Due.law(x, text), SlowLaw.judge(text));
        }
    }
}
