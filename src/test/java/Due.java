import java.nio.charset.StandardCharsets;

/** Tells each answer that is not the one that is due. */
final class Due {
    private static int asked = 0;
    private static int wrong = 0;

    static void is(String what, int got, int due) {
        asked++;
        if (got != due) {
            wrong++;
            System.out.println(what + ": answered " + got + ", due is " + due);
        }
    }

    static void is(String what, boolean got, boolean due) {
        is(what, got ? 1 : 0, due ? 1 : 0);
    }

    /** Bytes behind the tape, with blanks up to a multiple of twenty. */
    static void feed(DustMint x, int... bytes) {
        for (int i = 0; i < bytes.length; i += 20) {
            int[] n = new int[5];
            for (int k = 0; k < 20; k++) n[k / 4] = n[k / 4] << 8 | (i + k < bytes.length ? bytes[i + k] & 255 : ' ');
            x.feed(n[0], n[1], n[2], n[3], n[4]);
        }
    }

    static int law(DustMint x, String text) {
        byte[] signs = text.getBytes(StandardCharsets.ISO_8859_1);
        int[] bytes = new int[signs.length];
        for (int i = 0; i < bytes.length; i++) bytes[i] = signs[i];
        feed(x, bytes);
        return x.law(bytes.length);
    }

    /** A new object with a law that has no fault. */
    static DustMint mint(String text) {
        DustMint x = new DustMint();
        if (law(x, text) < 1) throw new IllegalArgumentException(text);
        return x;
    }

    static void end() {
        System.out.println(asked + " answers asked for, " + wrong + " not as due");
        if (wrong != 0) System.exit(1);
    }

    private Due() {
    }
}
