/** Boundaries of THE LAW in the Terms (promise 8 rests on them). What is quoted is the document's. */
public final class LawEdgesTest {
    private static final String FACTORS = "[0123456789ydwcrtpgiznbq";
    private static final String SIGNS = "+-*/%";
    private static final String PIECES = "!(" + FACTORS;
    private static final String DIGITS = "0123456789";

    public static void main(String[] args) {
        signs();
        ends();
        digits();
        clauses();
        open();
        openTogether();
        first();
        bounds();
        bits();
        divisors();
        refusedClauses();
        asked();
        compared();
        firstThatHolds();
        letters();
        Due.end();
    }

    private static void judged(String text, int due) {
        Due.is("law " + text, Due.law(new DustMint(), text), due);
    }

    /** "1 what can't stand there": behind each beginning, each of the 256 bytes. */
    private static void signs() {
        String[][] allowed = {
            {"", "lmks"}, {"l1(1=1);", "lmks"}, {"l1(1=1);s1(1=1);", "lmks"},
            {"l", FACTORS}, {"m", FACTORS}, {"k", FACTORS}, {"s", FACTORS},
            {"l1", DIGITS + SIGNS + "("}, {"l1234", DIGITS + SIGNS + "("}, {"l12345", SIGNS + "("},
            {"ly", SIGNS + "("}, {"lq", SIGNS + "("}, {"l[1]", SIGNS + "("}, {"l1+", FACTORS}, {"l1-", FACTORS}, {"l1*", FACTORS},
            {"l1/", FACTORS}, {"l1%", FACTORS}, {"l1+y", SIGNS + "("}, {"l1*y", SIGNS + "("},
            {"l[", FACTORS}, {"l[1", DIGITS + SIGNS + "]"}, {"l[y", SIGNS + "]"}, {"l[y+", FACTORS}, {"l[[y]", SIGNS + "]"},
            {"l1(", PIECES}, {"l1(!", PIECES}, {"l1((", PIECES}, {"l1(1=1&", PIECES}, {"l1(1=1|", PIECES}, {"l1(!!", PIECES},
            {"l1(1", DIGITS + SIGNS + "<>="}, {"l1(y", SIGNS + "<>="}, {"l1([y]", SIGNS + "<>="}, {"l1(!y", SIGNS + "<>="},
            {"l1((y", SIGNS + "<>="}, {"l1(y+", FACTORS}, {"l1(y=", FACTORS}, {"l1(y<", FACTORS}, {"l1(y>", FACTORS},
            {"l1(y=1", DIGITS + SIGNS + "&|)"}, {"l1(y=y", SIGNS + "&|)"}, {"l1(y=[y]", SIGNS + "&|)"}, {"l1(y=[y", SIGNS + "]"},
            {"l1(y=y+", FACTORS}, {"l1(!y=y", SIGNS + "&|)"}, {"l1((y=y", SIGNS + "&|)"}, {"l1((y=y)", "&|)"}, {"l1(!(y=y)", "&|)"},
            {"l1((y=y)&y=y", SIGNS + "&|)"}, {"l1((y=y|(y=y)", "&|)"},
        };
        for (String[] row : allowed) {
            for (int sign = 0; sign < 256; sign++) {
                boolean isSixth = row[0].endsWith("12345") && DIGITS.indexOf(sign) >= 0;
                int at = row[0].length();
                int due = isSixth ? -2000 - at : row[1].indexOf(sign) < 0 ? -1000 - at : -1000 - at - 1;
                boolean isWhole = sign == ')' && row[1].indexOf(')') >= 0 && opened(row[0]) == 1;
                judged(row[0] + (char) sign, isWhole ? 1 : due);
            }
        }
        // Behind a clause's ) a ; alone, and then a clause must come.
        for (int sign = 0; sign < 256; sign++) {
            judged("l1(1=1)" + (char) sign, sign == ';' ? -1008 : -1007);
            judged("l1((1=1)" + (char) sign + "(1=1))", sign == '&' || sign == '|' ? 1 : sign == ')' ? -1009 : -1008);
        }
        judged("l1((1=1))", 1);
    }

    /** How many ( are open behind a text. */
    private static int opened(String text) {
        int n = 0;
        for (char c : text.toCharArray()) n += c == '(' ? 1 : c == ')' ? -1 : 0;
        return n;
    }

    /** "1 what can't stand there (the end, too)": at each place of a text that has each kind of thing. */
    private static void ends() {
        String text = "l[y+12]*3%d(!(1<2|w>0)&[c]=1);m1(1=1);s99999(y=0)";
        for (int n = 1; n <= text.length(); n++) {
            String head = text.substring(0, n);
            int due = head.endsWith("=1)") || n == text.length() ? head.length() - head.replace(";", "").length() + 1 : -1000 - n;
            judged(head, due);
        }
    }

    /** "a number of one to five digits"; "2 a sixth digit, at it". */
    private static void digits() {
        String[][] places = {{"l", "(1=1)"}, {"l1(", "=1)"}, {"l1(1=", ")"}, {"l[", "](1=1)"}, {"l1(!(y<[1+", "*2]))"}, {"l1(1=1);k2*", "(r=1)"}};
        for (String[] around : places) {
            for (int n = 1; n <= 8; n++) {
                for (String digit : new String[] {"0", "1", "9"}) {
                    int clauses = around[0].contains(";") ? 2 : 1;
                    judged(around[0] + digit.repeat(n) + around[1], n <= 5 ? clauses : -2000 - around[0].length() - 5);
                }
            }
        }
        judged("l123456", -2006);
        judged("l12345", -1006);
        judged("l12345+12345+123456", -2018);
        // The first from the left: ahead of all that is wrong behind it.
        judged("l123456x", -2006);
        judged("lx123456", -1001);
        judged("l123456[[[[[[[", -2006);
    }

    /** "CLAUSES (14 at most)"; "4 a 15th CLAUSE, at its letter (if that can stand there)". */
    private static void clauses() {
        StringBuilder text = new StringBuilder("ly(y=y)");
        for (int n = 1; n <= 14; n++) {
            judged(text.toString(), n);
            int at = text.length();
            judged(text + ";", -1000 - at - 1);
            text.append(";").append("lmks".charAt(n % 4)).append("y(y=y)");
        }
        int letter = 14 * 8;
        judged(text.toString(), -4000 - letter);
        String fourteen = text.substring(0, letter - 1);
        judged(fourteen, 14);
        for (int sign = 0; sign < 256; sign++) {
            boolean stands = "lmks".indexOf(sign) >= 0;
            judged(fourteen + ";" + (char) sign, stands ? -4000 - letter : -1000 - letter);
            judged(fourteen + (char) sign, sign == ';' ? -1000 - letter : -1000 - letter + 1);
        }
        judged(fourteen + ";l123456", -4000 - letter);
    }

    /** "5 a seventh of ( [ ! that are open in one another, at it (the ( of the CLAUSE counts; ..)". */
    private static void open() {
        for (int n = 0; n <= 9; n++) {
            // The E of a clause stands ahead of its (: six [ there, five more of any in C.
            String brackets = "l" + "[".repeat(n) + "y" + "]".repeat(n) + "(1=1)";
            judged(brackets, n <= 6 ? 1 : -5007);
            String parentheses = "l1(" + "(".repeat(n) + "y=1" + ")".repeat(n) + ")";
            judged(parentheses, n <= 5 ? 1 : -5008);
            String nots = "l1(" + "!".repeat(n) + "y=1)";
            judged(nots, n <= 5 ? 1 : -5008);
            String left = "l1(" + "[".repeat(n) + "y" + "]".repeat(n) + "=1)";
            judged(left, n <= 5 ? 1 : -5008);
            String right = "l1(1=" + "[".repeat(n) + "y" + "]".repeat(n) + ")";
            judged(right, n <= 5 ? 1 : -5010);
        }
        // Every row of kinds of five and of six in C: ( and ! in any order, [ behind them.
        for (int bits = 0; bits < 64; bits++) {
            for (int brackets = 0; brackets <= 6; brackets++) {
                StringBuilder opened = new StringBuilder();
                StringBuilder closed = new StringBuilder();
                for (int i = 0; i < 6 - brackets; i++) {
                    boolean isNot = (bits >> i & 1) != 0;
                    opened.append(isNot ? '!' : '(');
                    if (!isNot) closed.append(')');
                }
                String rest = "[".repeat(brackets) + "y" + "]".repeat(brackets) + "=1" + closed + ")";
                judged("l1(" + opened + rest, -5008);
                if (brackets > 0) judged("l1(" + opened + rest.substring(1).replaceFirst("]", ""), 1);
            }
        }
        judged("l[[[[[[[", -5007);
        judged("l1(!!!!!!", -5008);
        judged("l1(!!!!![", -5008);
        judged("l1(!!!!!(", -5008);
    }

    /** "that are open in one another": what has been closed counts no more; "a ! is open till its PIECE ends". */
    private static void openTogether() {
        judged("l[[[[[[1]]]]]]+[[[[[[1]]]]]](((((([1]=1))))))", -5034);
        judged("l[[[[[[1]]]]]]+[[[[[[1]]]]]]((((((1=1))))))", 1);
        judged("l1((((((1=1)&(1=1)))))|(((((1=1))))))", 1);
        judged("l1((((((1=1)&((1=1))))))|(((((1=1))))))", -5014);
        judged("l1(!!!!!1=1&!!!!!1=1|!!!!!1=1)", 1);
        judged("l1(!!!!!1=1&!!!!!!1=1)", -5017);
        judged("l1(!!!!1=[1]&!!!![1]=1)", 1);
        judged("l1(!!!!!1=[1])", -5010);
        judged("l1(!!!!![1]=1)", -5008);
        // Both E of a piece are in its !; the piece behind the & is not.
        judged("l1(!1=1&[[[[[1]]]]]=1)", 1);
        judged("l1(!1=1&[[[[[[1]]]]]]=1)", -5013);
        judged("l1(!1=[[[[1]]]]&1=1)", 1);
        judged("l1(!1=[[[[[1]]]]]&1=1)", -5010);
        judged("l1(!(!(!1=1)&!!!1=1))", 1);
        judged("l1(!(!(!1=1)&!!!!1=1))", -5016);
        // Each clause begins anew.
        judged("l[[[[[[1]]]]]](!!!!!1=1);l[[[[[[1]]]]]](!!!!!1=1)", 2);
        judged("l[[[[[[1]]]]]](!!!!!1=1);l[[[[[[[1]]]]]]](!!!!!1=1)", -5032);
    }

    /** "FAULTS, the first from the left", and what can't stand at a place is told there, not what is one too many. */
    private static void first() {
        judged("l[[[[[[(", -1007);
        judged("l[[[[[[!", -1007);
        judged("l[[[[[[1[", -1008);
        judged("l1(((((((", -5008);
        judged("l1((((((]", -1008);
        judged("l1((((((1=1(", -1011);
        judged("l1((((((1=1[", -1011);
        judged("l1((((((1=1!", -1011);
        judged("l1((((((1=(", -1010);
        judged("l1((((((1=[", -5010);
        judged("l1((((((1!", -1009);
        judged("l1(1=1)!", -1007);
        judged("l[[[[[[[123456", -5007);
    }

    /** What a lone porter with a full bowl would lose at yard 3 with 7 grains. */
    private static void lost(String text, int due) {
        DustMint x = Due.mint(text);
        x.yard(3, 7, -2, false);
        x.porter(4, 3, 9999, 2, 6);
        Due.is("lost by " + text, x.porterIs(4, 4), due);
    }

    /** What a porter loses, the wind moves, rain washes and a beggar sieves in an hour, all by the same E. */
    private static void taken(String e, int due) {
        DustMint x = Due.mint("l" + e + "(y=2);m" + e + "(y=5);k" + e + "(y=9);s" + e + "(y=12)");
        x.porter(1, 2, 500, 9, 0);
        x.yard(5, 500, 1, false);
        x.yard(9, 500, 0, false);
        x.yard(12, 500, 0, false);
        x.licence(12, 3);
        Due.is("l " + e, x.hour(1), due);
        Due.is("l " + e + ", bowl", x.porterIs(1, 1), 500 - due);
        Due.is("m " + e, x.yardIs(6, 0), due);
        Due.is("m " + e + ", from", x.yardIs(5, 0), 500 - due);
        Due.is("k " + e, x.count(5), due);
        Due.is("k " + e + ", from", x.yardIs(9, 0), 500 - due);
        Due.is("s " + e, x.count(13), due);
        Due.is("s " + e + ", from", x.yardIs(12, 0), 500 - due);
    }

    /** "(beyond its bounds the bound; none: 0)": l, m, k, s "(0 to 99)". */
    private static void bounds() {
        String[] texts = {"0-99999", "0-100", "0-2", "0-1", "0", "1", "2", "98", "99", "100", "101", "99999", "99*99999", "0-99*99999"};
        int[] due = {0, 0, 0, 0, 0, 1, 2, 98, 99, 99, 99, 99, 99, 0};
        for (int i = 0; i < texts.length; i++) taken(texts[i], due[i]);
        // None that holds, none of the letter: 0.
        lost("l9(1=2)", 0);
        lost("l9(1=2);l8(2=3)", 0);
        lost("m9(1=1);k9(1=1);s9(1=1)", 0);
    }

    /** "All is reckoned with 32 bits, as the machine does". */
    private static void bits() {
        String most = "[65536*32767+65535]";
        String least = "[65536*32768]";
        lost("l50(" + most + ">0)", 50);
        lost("l50(" + most + "+1<0)", 50);
        lost("l50(" + most + "+1=" + least + ")", 50);
        lost("l50(" + least + "-1=" + most + ")", 50);
        lost("l50(0-" + least + "=" + least + ")", 50);
        lost("l50(" + least + "*2=0)", 50);
        lost("l50(" + most + "*2=0-2)", 50);
        lost("l50(" + most + "*" + most + "=1)", 50);
        lost("l50(65536*65536=0)", 50);
        lost("l50(65536*65535=0-65536)", 50);
        // 9999800001 less twice 2 to the 32nd is 1409865409.
        lost("l50(99999*99999/14098=99999+5)", 50);
        lost("l50(99999*99999%10000=5409)", 50);
        taken(most, 99);
        taken(most + "+1", 0);
        taken(least, 0);
        taken(least + "-1", 99);
        // The least number by -1 is itself, its rest 0; neither is refused.
        lost("l50(" + least + "/[0-1]=" + least + ")", 50);
        lost("l50(" + least + "%[0-1]=0)", 50);
        lost("l50(" + most + "/[0-1]=0-" + most + ")", 50);
        // Division goes towards 0; a rest has the sign of what is divided.
        lost("l50([0-1]/2=0&[0-3]/2=0-1&3/[0-2]=0-1&[0-3]/[0-2]=1)", 50);
        lost("l50([0-3]%2=0-1&3%[0-2]=1&[0-3]%[0-2]=0-1&[0-4]%2=0)", 50);
    }

    /** "what is divided by 0 is REFUSED: then a C does not hold, an E is 0"; next to it 1 and -1. */
    private static void divisors() {
        String[] zeros = {"0", "00000", "[1-1]", "c", "[y-3]", "[d-7]", "[w+2]", "[65536*65536]", "b", "q", "t", "r"};
        for (String zero : zeros) {
            for (String sign : new String[] {"/", "%"}) {
                lost("l50" + sign + zero + "(1=1)", 0);
                lost("l60+50" + sign + zero + "(1=1)", 0);
                lost("l60+0*[50" + sign + zero + "](1=1)", 0);
                lost("l50(1" + sign + zero + "=0);l8(1=1)", 8);
                lost("l50(0=0" + sign + zero + ");l8(1=1)", 8);
                lost("l50(!1" + sign + zero + "=0);l8(1=1)", 8);
                lost("l50(!1=1|2" + sign + zero + ">0|1=1);l8(1=1)", 8);
            }
        }
        lost("l50/1(1=1)", 50);
        lost("l0-50/[0-1](1=1)", 50);
        lost("l7+50%1(1=1)", 7);
        lost("l7+50%[0-1](1=1)", 7);
        lost("l7+0/5(1=1)", 7);
        lost("l7+0%5(1=1)", 7);
    }

    /** REFUSED in each kind of clause: an E takes nothing, a C leaves it to the next clause. */
    private static void refusedClauses() {
        taken("5/0", 0);
        taken("5+5%0", 0);
        taken("7+5/[y-y]", 0);
        DustMint x = Due.mint("l1(1/0=0);l2(1=1);m3(1%0=0);m4(1=1);k5(1/c=1);k6(y=9);s7(1%n=0);s8(1=1)");
        x.porter(1, 2, 500, 9, 0);
        x.yard(5, 500, 1, false);
        x.yard(9, 500, 0, false);
        x.yard(12, 500, 0, false);
        x.licence(12, 3);
        Due.is("the next l", x.hour(1), 2);
        Due.is("the next m", x.yardIs(6, 0), 4);
        Due.is("the next k", x.count(5), 6);
        Due.is("the next s", x.count(13), 8);
    }

    /** "Of a C as much is asked, from the left, as matters": what is not asked is not refused. */
    private static void asked() {
        lost("l50(1=1|1/0=0)", 50);
        lost("l50(1=2|1/0=0|1=1)", 0);
        lost("l50(1=2|1=1|1/0=0)", 50);
        lost("l50(1/0=0|1=1)", 0);
        lost("l50(1=2&1/0=0|1=1)", 50);
        lost("l50(1=1&1/0=0|1=1)", 0);
        lost("l50(1/0=0&1=2|1=1)", 0);
        lost("l50(1=1&1=2&1/0=0|1=1)", 50);
        lost("l50(1=1|1=2&1/0=0)", 50);
        lost("l50(1=1&1=1|1/0=0)", 50);
        lost("l50(!(1=2&1/0=0))", 50);
        lost("l50(!(1=1&1/0=0))", 0);
        lost("l50(!(1=1|1/0=0)|1=1)", 50);
        lost("l50((1=2|1=1)&(1=1|1/0=0)&!(1=2&1/0=0))", 50);
        lost("l50((1=2|1=2)&1/0=0|1=1)", 50);
        lost("l50((1=2&1=1)|1/0=0|1=1)", 0);
        lost("l50((1=1|1/0=0|1/0=0)&1=1)", 50);
        lost("l50((1=2&1/0=0&1/0=0)|1=1)", 50);
        // A clause behind the one that holds is not asked, nor one of another letter.
        lost("l50(1=1);l60(1/0=0)", 50);
        lost("m50(1/0=0);l50(1=1)", 50);
        // The E of a clause that does not hold is not asked.
        lost("l1/0(1=2);l50(1=1)", 50);
    }

    /** Each of < > = at one less, as much, one more, and each of them behind one ! and two. */
    private static void compared() {
        for (int a = 6; a <= 8; a++) {
            for (char how : new char[] {'<', '>', '='}) {
                boolean holds = how == '<' ? a < 7 : how == '>' ? a > 7 : a == 7;
                lost("l50(" + a + how + "d)", holds ? 50 : 0);
                lost("l50(!" + a + how + "d)", holds ? 0 : 50);
                lost("l50(!!" + a + how + "d)", holds ? 50 : 0);
                lost("l50(!(" + a + how + "d))", holds ? 0 : 50);
                lost("l50(!(!" + a + how + "d&1=1))", holds ? 50 : 0);
                lost("l50(0-" + a + how + "0-d)", (how == '=' ? holds : how == '<' ? a > 7 : a < 7) ? 50 : 0);
            }
        }
    }

    /** "of the first one of a letter whose C holds the E": each of fourteen, and the last one alone. */
    private static void firstThatHolds() {
        StringBuilder text = new StringBuilder();
        for (int i = 0; i < 14; i++) text.append(i > 0 ? ";" : "").append("l").append(i + 1).append("(y=").append(i).append(")");
        DustMint x = Due.mint(text.toString());
        for (int y = 0; y < 20; y++) {
            x.porter(0, y, 99, 0, 0);
            Due.is("clause of " + y, x.porterIs(0, 4), y < 14 ? y + 1 : 0);
        }
        x = Due.mint("m1(1=1);".repeat(13) + "l50(1=1)");
        x.porter(0, 0, 99, 0, 0);
        Due.is("the 14th alone", x.porterIs(0, 4), 50);
        lost("l0(1=1);l50(1=1)", 0);
        lost("l0-5(1=1);l50(1=1)", 0);
        lost("l1(y=2);l2(y>2);l3(y=3)", 2);
    }

    /** The letters at the ends of what they stand for; "(else p g i z n b q are 0)". */
    private static void letters() {
        DustMint x = Due.mint("l1(y=19&d=99999&w=3&c=1&r=9&t=0&p=8&g=9999&i=9&z=1&n=1&b=0&q=0)");
        x.yard(19, 99999, 3, true);
        x.rain(0, 9);
        x.porter(8, 19, 9999, 9, 5);
        Due.is("the greatest", x.porterIs(8, 4), 1);
        x = Due.mint("l1(y=0&d=0&w=0-3&c=0&r=0&t=0&p=0&g=1&i=0&z=0&n=9&b=0&q=0)");
        x.yard(0, 0, -3, false);
        for (int p = 0; p < 9; p++) x.porter(p, 0, p == 0 ? 1 : 0, 0, 0);
        Due.is("the least, with all nine there", x.porterIs(0, 4), 1);
        x = Due.mint("m1(p=0&g=0&i=0&z=0&n=0&b=0&q=0);k1(p=0&g=0&i=0&z=0&n=0&b=0&q=0);s1(p=0&g=0&i=0&z=0&n=0&b=5&q=9)");
        x.porter(8, 5, 9999, 9, 5);
        x.yard(5, 10, 1, false);
        x.licence(5, 5);
        x.skill(5, 9);
        x.hour(5);
        Due.is("m sees none of them, k neither (both yards)", x.count(5), 2);
        Due.is("s sees its beggar", x.count(15), 1);
        Due.is("one moved and washed, one washed, one sieved", x.yardIs(5, 0) * 10 + x.yardIs(6, 0), 70);
        // Behind a sieve l sees no beggar still; who is not told is at no yard, not even at 0.
        x = Due.mint("l1+b+q(n=1);l9(1=1);s1(1=1)");
        x.yard(5, 10, 0, false);
        x.licence(5, 5);
        x.skill(5, 9);
        x.porter(3, 0, 100, 9, 0);
        Due.is("l ahead of a sieve", x.hour(0), 1);
        Due.is("l behind a sieve", x.hour(0), 1);
        Due.is("as it would be", x.porterIs(3, 4), 1);
        // t and r are the hour's own, before it is one more.
        x = Due.mint("lt(1=1);kr(1=1)");
        x.porter(0, 0, 999, 9, 0);
        x.yard(9, 99, 0, false);
        for (int h = 0; h < 5; h++) x.rain(h, h);
        for (int h = 0; h < 5; h++) Due.is("t in hour " + h, x.hour(0), h);
    }
}
