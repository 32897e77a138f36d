/** Boundaries of the tape and of what is read from it: promises 7, 8, 20 and 27. What is quoted is the document's. */
public final class TapeEdgesTest {
    private static final int NONE = DustMint.NONE;
    private static final Rig NUMBERS = Rig.ofNumbers();
    private static final Rig TEXT = Rig.ofText();
    private static final Rig EMPTY = Rig.ofNothing();

    public static void main(String[] args) {
        feed();
        feedBytes();
        lawNumbers();
        lawFaults();
        lawTaken();
        lawFull();
        shookNumbers();
        shookPorters();
        shookGrains();
        checkNumbers();
        checkPlaces();
        Due.end();
    }

    private static DustMint fed(int times) {
        DustMint x = new DustMint();
        for (int i = 0; i < times; i++) x.feed(5 * i, 5 * i + 1, 5 * i + 2, 5 * i + 3, 5 * i + 4);
        return x;
    }

    /** "how many it has; NONE if that would be more than 220". */
    private static void feed() {
        for (int times = 1; times <= 11; times++) Due.is("fed " + times, fed(times - 1).feed(1, 2, 3, 4, 5), 20 * times);
        DustMint x = fed(11);
        for (int i = 0; i < 3; i++) Due.is("more than 220", x.feed(-1, -1, -1, -1, -1), NONE);
        Due.is("220", x.count(2), 220);
        Rig.same("refused at 220", Rig.seen(x), Rig.seen(fed(11)));
        x = fed(11);
        x.feed(-1, -1, -1, -1, -1);
        for (int y = 0; y < 20; y++) x.yard(y, y, 0, false);
        Due.is("what was on it is on it", x.check(20), NONE);
        Due.is("from nothing again", x.feed(0, 0, 0, 0, 0), 20);
        NUMBERS.changes("fed", m -> m.feed(1, 2, 3, 4, 5), 60, "count 2", 60);
        EMPTY.changes("fed", m -> m.feed(Integer.MIN_VALUE, -1, 0, 1, Integer.MAX_VALUE), 20, "count 2", 20);
    }

    /** "Twenty bytes come behind the tape, the highest of each int first". */
    private static void feedBytes() {
        // A text in the very order of its bytes, and another order of them.
        DustMint x = new DustMint();
        x.feed('l' << 24 | '7' << 16 | '(' << 8 | '1', '=' << 24 | '1' << 16 | ')' << 8 | ';', 'm' << 24 | '8' << 16 | '(' << 8 | '1',
            '=' << 24 | '1' << 16 | ')' << 8 | ';', 'k' << 24 | '9' << 16 | '(' << 8 | '1');
        x.feed('=' << 24 | '1' << 16 | ')' << 8 | ' ', 0, 0, 0, 0);
        Due.is("the highest first, behind what is there", x.law(23), 3);
        x.feed('1' << 24 | '(' << 16 | '7' << 8 | 'l', ')' << 24 | '1' << 16 | '=' << 8, 0, 0, 0);
        Due.is("not the lowest first", x.law(7), -1000);
        // Bytes are not numbers with a sign: 0xff and 0x80 of a number that is right.
        x = new DustMint();
        x.yard(0, 0xff80, 0, false);
        x.yard(1, 0x80ff, 0, false);
        x.yard(2, 0x18080, 0, false);
        x.feed(0xff80, 0x80ff, 0x18080, 0, 0);
        Due.is("bytes above 127", x.check(5), NONE);
    }

    /** law: "the first n bytes of the tape (1 to 200; ..)"; "NONE: no such n, it has not so many (the tape stays)". */
    private static void lawNumbers() {
        for (int n : Rig.outside(1, 200)) TEXT.unchanged("law " + n, x -> x.law(n), NONE);
        // It has twenty.
        for (int n : new int[] {21, 22, 40, 199, 200}) TEXT.unchanged("law " + n + " of 20", x -> x.law(n), NONE);
        TEXT.onlyEmpties("law 20 of 20: the blank", x -> x.law(20), -1018);
        TEXT.onlyEmpties("law 1", x -> x.law(1), -1001);
        for (int n : new int[] {1, 20, 200, 0, 201, -1}) EMPTY.unchanged("law " + n + " of none", x -> x.law(n), NONE);
        // It has 220: 200 is the most all the same.
        for (int n : new int[] {201, 202, 219, 220, 221}) {
            DustMint x = fed(11);
            Due.is("law " + n + " of 220", x.law(n), NONE);
            Due.is("the tape stays", x.count(2), 220);
            for (int y = 0; y < 20; y++) x.yard(y, y, 0, false);
            Due.is("as it was", x.check(20), NONE);
        }
        DustMint x = fed(11);
        Due.is("law 200 of 220", x.law(200), -1000);
        Due.is("empty then", x.count(2), 0);
        x = fed(10);
        Due.is("law 200 of 200", x.law(200), -1000);
        Due.is("empty then", x.count(2), 0);
        x = fed(9);
        Due.is("law 181 of 180", x.law(181), NONE);
        Due.is("law 200 of 180", x.law(200), NONE);
        Due.is("it stays", x.count(2), 180);
        Due.is("law 180 of 180", x.law(180), -1000);
    }

    /** "a FAULT: -1000 times its number, less its place (the TEXT before stays)"; "empty then". */
    private static void lawFaults() {
        for (int n = 1; n <= Rig.TEXT.length(); n++) {
            // Every end but that behind a clause is one that can't stand there.
            if (n != 10 && n != 18) {
                int last = n;
                TEXT.onlyEmpties("law " + n, x -> x.law(last), -1000 - n);
            }
        }
        TEXT.onlyEmpties("law 19", x -> x.law(19), -1018);
    }

    /** "THE LAW by the first n bytes of the tape (..; empty then), in place of the one before: how many CLAUSES". */
    private static void lawTaken() {
        Object[] two = {"count 1", 2, "count 2", 0, "porterIs 3 4", 10, "porterIs 5 4", 12, "porterIs 6 4", 0, "porterIs 8 4", 15};
        TEXT.changes("law 18", x -> x.law(18), 2, two);
        two[1] = 1;
        TEXT.changes("law 10", x -> x.law(10), 1, two);
        // The kept hill has no law of its own.
        DustMint x = TEXT.made();
        x.law(18);
        x.undo();
        Due.is("the law stays behind an undo", x.count(1) * 100 + x.porterIs(3, 4), 210);
    }

    /** "a TEXT of at most 200 bytes": one of 200 whose last byte matters, one whose end comes at place 200. */
    private static void lawFull() {
        DustMint x = new DustMint();
        String text = "l" + "0+".repeat(96) + "13(1=1)";
        Due.is("200 bytes", text.length(), 200);
        Due.is("a text of 200", Due.law(x, text), 1);
        x.porter(0, 0, 99, 0, 0);
        Due.is("all of it counts", x.porterIs(0, 4), 13);
        Due.is("the end at 200", Due.law(x, "l" + "0+".repeat(96) + "13(11=1"), -1200);
        Due.is("199 of 200 bytes", Due.law(x, text.substring(0, 199)), -1199);
        Due.is("the text before stays", x.porterIs(0, 4), 13);
        Due.is("the shortest", Due.law(x, "ly(y=y)"), 1);
        for (int n = 1; n < 7; n++) Due.is("shorter", Due.law(x, "ly(y=y)".substring(0, n)), -1000 - n);
    }

    /** shook: "(grains; 1 to 8; empty then)"; "NONE also: no such ones, it has not so many (the tape stays)". */
    private static void shookNumbers() {
        for (int n : Rig.outside(1, 8)) {
            for (int what = NONE; what <= 1; what++) {
                int asked = what;
                NUMBERS.unchanged("shook n " + n, x -> x.shook(3, n, asked), NONE);
            }
        }
        for (int what : Rig.outside(NONE, 1)) NUMBERS.unchanged("shook what " + what, x -> x.shook(3, 1, what), NONE);
        for (int n = 1; n <= 8; n++) {
            int hours = n;
            EMPTY.unchanged("shook " + n + " of none", x -> x.shook(3, hours, NONE), NONE);
        }
        // The numbers' bytes are 0 0 0 11 0 0 0 22: porter 3 loses something in each hour, so that nothing fits.
        for (int n : new int[] {1, 2, 7, 8}) {
            NUMBERS.onlyEmpties("shook " + n + ": none", x -> x.shook(3, n, NONE), 0);
            NUMBERS.onlyEmpties("shook " + n + ": no limp", x -> x.shook(3, n, 0), -2);
            NUMBERS.onlyEmpties("shook " + n + ": no sneeze", x -> x.shook(3, n, 1), -2);
        }
    }

    /** shook: "-3: no such PORTER, arrived". */
    private static void shookPorters() {
        for (int what = NONE; what <= 1; what++) {
            int asked = what;
            for (int p : Rig.outside(0, 8)) NUMBERS.onlyEmpties("shook porter " + p, x -> x.shook(p, 1, asked), -3);
            for (int p : new int[] {1, 2, 4, 7}) NUMBERS.onlyEmpties("shook, not told " + p, x -> x.shook(p, 1, asked), -3);
            NUMBERS.onlyEmpties("shook, arrived", x -> x.shook(0, 8, asked), -3);
            EMPTY.unchanged("shook, arrived, no tape", x -> x.shook(0, 1, asked), NONE);
        }
        for (int p : new int[] {3, 5, 6, 8}) NUMBERS.onlyEmpties("shook " + p, x -> x.shook(p, 1, NONE), 0);
        DustMint x = Due.mint("l7(1=1)");
        x.porter(0, 0, 100, 0, 0);
        x.porter(8, 19, 100, 0, 0);
        Due.feed(x, 7, 7, 7, 7, 7, 7, 7, 7);
        Due.is("porter 0, eight hours", x.shook(0, 8, NONE), 100);
        // At 19 it arrives in the hour of its limp (hour 0 for 0); it loses nothing behind that.
        for (int limp = 0; limp <= 8; limp++) {
            int[] lost = new int[8];
            for (int h = 0; h < 8; h++) lost[h] = h <= limp ? 7 : 0;
            Due.feed(x, lost);
            Due.is("porter 8 of limp " + limp, x.shook(8, 8, NONE), limp < 7 ? 10 : 30);
            Due.feed(x, lost);
            Due.is("its limp", x.shook(8, 8, 0), Math.min(limp, 7));
        }
    }

    /** "how many grains it lost in each": a byte is 0 to 255; "the first (by LIMP)". */
    private static void shookGrains() {
        DustMint x = Due.mint("l99(z=1);li(1=1)");
        x.porter(4, 3, 9999, 7, 7);
        // The first draw is 2: sneeze 2 loses 99, others their limp (a 0 among them).
        for (int grains : new int[] {0, 9, 10, 98, 99, 100, 128, 255}) {
            int many = grains == 99 ? 10 : grains <= 9 ? 9 : 0;
            Due.feed(x, grains);
            Due.is("grains " + grains, x.shook(4, 1, NONE), many);
            Due.feed(x, grains);
            Due.is("grains " + grains + ", limp", x.shook(4, 1, 0), many == 0 ? -2 : grains == 99 ? 0 : grains);
            Due.feed(x, grains);
            Due.is("grains " + grains + ", sneeze", x.shook(4, 1, 1), many == 0 ? -2 : grains == 99 ? 2 : 0);
        }
        // By limp, not by sneeze: (0, 2) is ahead of (2, 0), (2, 1), (2, 3) ..
        x = Due.mint("li*2+z*4(1=1)");
        x.porter(4, 3, 9999, 7, 7);
        Due.feed(x, 4);
        Due.is("of both kinds", x.shook(4, 1, NONE), 10);
        Due.feed(x, 4);
        Due.is("the least limp", x.shook(4, 1, 0), 0);
        Due.feed(x, 4);
        Due.is("and its sneeze", x.shook(4, 1, 1), 2);
        // What it loses hangs on dust that the wind brings to where it stands.
        x = Due.mint("l4(d>0);m9(1=1)");
        x.yard(18, 9, 1, false);
        x.porter(0, 19, 10, 1, 0);
        Due.feed(x, 0, 4);
        Due.is("all that limp", x.shook(0, 2, NONE), 90);
        Due.feed(x, 0, 4);
        Due.is("the first that limps", x.shook(0, 2, 0) * 10 + Rig.bit(x.count(2) == 0), 11);
        // The greatest of both: limp 9 and sneeze 9 alone fit, if a draw of 9 comes first.
        x = Due.mint("li+z*50(1=1)");
        x.porter(4, 3, 9999, 0, 0);
        int seed = 0;
        while ((25173 * seed + 13849) % 65536 % 10 != 9) seed++;
        x.seed(seed);
        Due.feed(x, 59);
        Due.is("one", x.shook(4, 1, NONE), 1);
        Due.feed(x, 59);
        Due.is("limp 9", x.shook(4, 1, 0), 9);
        Due.feed(x, 59);
        Due.is("sneeze 9", x.shook(4, 1, 1), 9);
        // Nothing is lost by an empty bowl: all hundred.
        x.porter(4, 3, 0, 5, 5);
        Due.feed(x, 0, 0, 0, 0, 0, 0, 0, 0);
        Due.is("all", x.shook(4, 8, NONE), 100);
        Due.feed(x, 0, 0, 0, 0, 0, 0, 0, 0);
        Due.is("the first of all", x.shook(4, 8, 0), 0);
        Due.feed(x, 0, 0, 0, 0, 0, 0, 0, 1);
        Due.is("but for the eighth", x.shook(4, 8, NONE), 0);
        Due.feed(x, 0, 0, 0, 0, 0, 0, 0, 1);
        Due.is("the ninth byte is not asked", x.shook(4, 7, NONE), 100);
    }

    /** check: "(0 to 20; four bytes each; empty then)"; "-2: no such n, it has not so many (the tape stays)". */
    private static void checkNumbers() {
        for (int n : Rig.outside(0, 20)) NUMBERS.unchanged("check " + n, x -> x.check(n), -2);
        for (int n = 11; n <= 20; n++) {
            int numbers = n;
            NUMBERS.unchanged("check " + n + " of 10", x -> x.check(numbers), -2);
        }
        NUMBERS.onlyEmpties("check 10 of 10", x -> x.check(10), 0);
        NUMBERS.onlyEmpties("check 0", x -> x.check(0), NONE);
        EMPTY.unchanged("check 0 of none", x -> x.check(0), NONE);
        for (int n : new int[] {1, 20, -1, 21}) EMPTY.unchanged("check " + n + " of none", x -> x.check(n), -2);
        for (int times = 1; times <= 11; times++) {
            int most = Math.min(20, 5 * times);
            DustMint x = fed(times);
            for (int y = 0; y < 20; y++) x.yard(y, y, 0, false);
            Due.is("one more than " + most, x.check(most + 1), -2);
            Due.is("it stays", x.count(2), 20 * times);
            Due.is("as many", x.check(most), NONE);
            Due.is("empty then", x.count(2), 0);
        }
    }

    /** "NONE: right; else the place of the first number that is not so". */
    private static void checkPlaces() {
        for (int at = 0; at <= 20; at++) {
            for (int n = 0; n <= 20; n++) {
                DustMint x = new DustMint();
                for (int y = 0; y < 20; y++) x.yard(y, 99980 + y, 0, false);
                int[] row = new int[20];
                for (int y = 0; y < 20; y++) row[y] = 99980 + y + (y >= at ? 1 : 0);
                for (int i = 0; i < 20; i += 5) x.feed(row[i], row[i + 1], row[i + 2], row[i + 3], row[i + 4]);
                Due.is("wrong from " + at + ", check " + n, x.check(n), at < n ? at : NONE);
                Due.is("empty then", x.count(2), 0);
            }
        }
        // Numbers that no yard can have, and such as are alike in fewer bits.
        for (int number : new int[] {-1, Integer.MIN_VALUE, Integer.MAX_VALUE, 5 + (1 << 24), 5 + (1 << 16), 5 + (1 << 8), 4, 6}) {
            DustMint x = new DustMint();
            x.yard(0, 5, 0, false);
            x.feed(number, 0, 0, 0, 0);
            Due.is("number " + number, x.check(1), 0);
        }
    }
}
