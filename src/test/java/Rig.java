import java.util.ArrayList;
import java.util.LinkedHashMap;
import java.util.List;
import java.util.Map;

/**
 * A mint with something of everything in it, made anew for each call, and all that can be seen of it: so a test can tell
 * what a call has changed, and that it has changed nothing else. No object gets more than the 512 calls it is made for.
 */
final class Rig {
    static final int NONE = DustMint.NONE;
    static final String LAW = "l3+i+z*20+p(d<500);l1(1=1);m2+w*w(1=1);k1+r(r>0);s1+q(1=1)";
    /** Told porters: 0 has arrived, 3 and 5 are at yard 4 still, 6 is at 18, 8 at 12. */
    static final int CLIMBERS = 1 << 3 | 1 << 5 | 1 << 6 | 1 << 8;
    static final int TOLD = CLIMBERS | 1;
    static final int[] NUMBERS = {11, 22, 33, 44, 55, 66, 77, 88, 99, 110};
    static final String TEXT = "l7+p(y<15);k2(1=1)";

    interface Call {
        int on(DustMint x);
    }

    /** What is looked at: as it is, behind hours, behind an undo, what is on the tape. */
    private enum Way { SEEN, LATER, UNDONE, TAPE }

    private final boolean hasText;
    private final boolean isFed;
    private final Map<Way, Map<String, Integer>> due = new LinkedHashMap<>();
    private final Map<Way, Map<String, Integer>> dueEmptied = new LinkedHashMap<>();

    private Rig(boolean isFed, boolean hasText) {
        this.isFed = isFed;
        this.hasText = hasText;
        for (Way way : Way.values()) {
            due.put(way, look(made(isFed), way));
            dueEmptied.put(way, look(made(false), way));
        }
    }

    /** Ten numbers on the tape. */
    static Rig ofNumbers() {
        return new Rig(true, false);
    }

    /** A law's text (and blanks up to twenty bytes) on the tape. */
    static Rig ofText() {
        return new Rig(true, true);
    }

    /** Nothing on the tape. */
    static Rig ofNothing() {
        return new Rig(false, false);
    }

    DustMint made() {
        return made(isFed);
    }

    private DustMint made(boolean fed) {
        DustMint x = Due.mint(LAW);
        x.yard(0, 40, -1, false);
        x.yard(4, 300, 2, true);
        x.yard(7, 600, 0, false);
        x.yard(18, 90, -3, true);
        x.yard(19, 99990, 3, false);
        x.licence(4, 5);
        x.licence(7, 0);
        x.licence(12, 2);
        x.skill(0, 3);
        x.skill(5, 9);
        x.rain(0, 2);
        x.rain(1, 9);
        x.rain(5, 4);
        x.rain(99, 1);
        x.porter(0, 19, 500, 0, 3);
        x.porter(3, 4, 9999, 4, 6);
        x.porter(5, 4, 70, 9, 0);
        x.porter(8, 12, 1000, 9, 9);
        x.seed(12345);
        x.hours(2);
        x.keep();
        x.yard(2, 17, 1, true);
        x.porter(6, 17, 33, 1, 1);
        x.licence(2, 1);
        x.skill(2, 7);
        x.rain(8, 8);
        x.seed(54321);
        x.hour(3);
        if (fed && hasText) {
            byte[] signs = TEXT.getBytes(java.nio.charset.StandardCharsets.ISO_8859_1);
            int[] bytes = new int[signs.length];
            for (int i = 0; i < bytes.length; i++) bytes[i] = signs[i];
            Due.feed(x, bytes);
        } else if (fed) {
            x.feed(NUMBERS[0], NUMBERS[1], NUMBERS[2], NUMBERS[3], NUMBERS[4]);
            x.feed(NUMBERS[5], NUMBERS[6], NUMBERS[7], NUMBERS[8], NUMBERS[9]);
        }
        return x;
    }

    /** Makes a call of the face and answers it as a number. */
    static int bit(boolean answer) {
        return answer ? 1 : 0;
    }

    private Map<String, Integer> look(DustMint x, Way way) {
        Map<String, Integer> first = new LinkedHashMap<>();
        switch (way) {
            case LATER: first.put("hours(9)", x.hours(9)); break;
            case UNDONE: first.put("undo()", bit(x.undo())); break;
            case TAPE:
                if (hasText) {
                    first.put("law(18)", x.law(TEXT.length()));
                } else {
                    for (int y = 0; y < NUMBERS.length; y++) x.yard(y, NUMBERS[y], 0, false);
                    first.put("check(10)", x.check(NUMBERS.length));
                }
                break;
            default: break;
        }
        first.putAll(seen(x));
        return first;
    }

    /** All that the calls which only ask tell of an object, in 426 calls. */
    static Map<String, Integer> seen(DustMint x) {
        Map<String, Integer> all = new LinkedHashMap<>();
        for (int what = 0; what <= 8; what++) all.put("count " + what, x.count(what));
        for (int b = 0; b < 6; b++) {
            all.put("count " + (10 + b), x.count(10 + b));
            all.put("count " + (20 + b), x.count(20 + b));
        }
        for (int h = 100; h < 200; h++) all.put("count " + h, x.count(h));
        for (int y = 0; y < 20; y++) for (int what = 0; what < 4; what++) all.put("yardIs " + y + " " + what, x.yardIs(y, what));
        for (int p = 0; p < 9; p++) for (int what = 0; what < 5; what++) all.put("porterIs " + p + " " + what, x.porterIs(p, what));
        for (int p = 0; p < 9; p++) for (int y = 0; y < 20; y++) all.put("led " + p + " " + y, x.led(p, y));
        return all;
    }

    static void same(String what, Map<String, Integer> got, Map<String, Integer> due) {
        for (Map.Entry<String, Integer> e : due.entrySet()) {
            Due.is(what + ", then " + e.getKey(), got.getOrDefault(e.getKey(), Integer.MIN_VALUE), e.getValue());
        }
        Due.is(what + ", as many", got.size(), due.size());
    }

    /** The call answers so and nothing is changed. */
    void unchanged(String what, Call call, int answer) {
        for (Way way : Way.values()) {
            DustMint x = made();
            Due.is(what, call.on(x), answer);
            same(what + " (" + way + ")", look(x, way), due.get(way));
        }
    }

    /** The call only asks, whatever it answers. */
    void asks(String what, Call call) {
        unchanged(what, call, call.on(made()));
    }

    /** The call answers so and only the tape is changed: it is empty. */
    void onlyEmpties(String what, Call call, int answer) {
        for (Way way : Way.values()) {
            DustMint x = made();
            Due.is(what, call.on(x), answer);
            same(what + " (" + way + ")", look(x, way), dueEmptied.get(way));
        }
    }

    /** The call answers so, and just the told things that can be seen are so then, in twos: "yardIs 3 0", 7, .. */
    void changes(String what, Call call, int answer, Object... told) {
        DustMint x = made();
        Due.is(what, call.on(x), answer);
        Map<String, Integer> all = new LinkedHashMap<>(due.get(Way.SEEN));
        for (int i = 0; i + 1 < told.length; i += 2) {
            if (all.put((String) told[i], (Integer) told[i + 1]) == null) throw new IllegalArgumentException("" + told[i]);
        }
        same(what, look(x, Way.SEEN), all);
    }

    int was(String what) {
        return due.get(Way.SEEN).get(what);
    }

    /** Numbers that are not from least to most: next to them, far away, and such as look alike in fewer bits. */
    static int[] outside(int least, int most) {
        List<Integer> all = new ArrayList<>();
        long[] tries = {least - 1L, most + 1L, least - 2L, most + 2L, least - 32L, most + 32L, least - 256L, most + 256L,
            least - 65536L, most + 65536L, 1L << 30, -1L << 30, Integer.MIN_VALUE, Integer.MIN_VALUE + 1L + most,
            Integer.MAX_VALUE, Integer.MAX_VALUE - 1L};
        for (long n : tries) {
            boolean fits = n >= Integer.MIN_VALUE && n <= Integer.MAX_VALUE;
            if (fits && (n < least || n > most) && !all.contains((int) n)) all.add((int) n);
        }
        int[] row = new int[all.size()];
        for (int i = 0; i < row.length; i++) row[i] = all.get(i);
        return row;
    }
}
