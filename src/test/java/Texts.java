import java.util.Random;

/** Draws texts of laws, with and without faults. */
final class Texts {
    private static final String SIGNS = "lmks;()[]!&|<>=+-*/%0123456789ydwcrtpgiznbq xA~\u0000\u00e9";
    private final Random random;

    Texts(Random random) {
        this.random = random;
    }

    private boolean oneIn(int n) {
        return random.nextInt(n) == 0;
    }

    /** A law by which something happens: a clause or two for each letter, the last of which mostly holds. */
    String tame() {
        StringBuilder s = new StringBuilder();
        for (char letter : "lmks".toCharArray()) {
            if (oneIn(5)) continue;
            if (oneIn(2)) s.append(letter).append(sum(1)).append('(').append(parts(1)).append(");");
            s.append(letter).append(easySum()).append('(').append(oneIn(3) ? easyPiece() : "1=1").append(");");
        }
        if (s.length() == 0) return "l3(1=1)";
        s.setLength(s.length() - 1);
        return s.toString();
    }

    private String easySum() {
        String letters = "ydwcrtpgiznbq";
        char a = letters.charAt(random.nextInt(13));
        char b = letters.charAt(random.nextInt(13));
        switch (random.nextInt(6)) {
            case 0: return "" + (1 + random.nextInt(20));
            case 1: return a + "+" + random.nextInt(9);
            case 2: return a + "/" + (1 + random.nextInt(9)) + "+" + b;
            case 3: return 12 + random.nextInt(20) + "-" + a + "*" + random.nextInt(5) + "-c*4";
            case 4: return "[d+" + b + "]%" + (2 + random.nextInt(9)) + "+" + random.nextInt(4);
            default: return "g/10+i*2+z*" + random.nextInt(9) + "+n+q*2+b%3+d/20";
        }
    }

    private String easyPiece() {
        char a = "ydwcrtpgiznbq".charAt(random.nextInt(13));
        return (oneIn(3) ? "!" : "") + a + "<>=".charAt(random.nextInt(3)) + random.nextInt(8);
    }

    String law() {
        StringBuilder s = new StringBuilder();
        int n = 1 + random.nextInt(oneIn(6) ? 15 : 6);
        for (int i = 0; i < n; i++) {
            if (i > 0) s.append(';');
            s.append("lmks".charAt(random.nextInt(4))).append(sum(2)).append('(').append(parts(2)).append(')');
        }
        return s.toString();
    }

    /** Texts with many open brackets or many clauses. */
    String deep() {
        if (oneIn(3)) return "l1(1=1);".repeat(12 + random.nextInt(3)) + "kd(!d=1)";
        StringBuilder s = new StringBuilder("s1(");
        int n = 1 + random.nextInt(7);
        for (int i = 0; i < n; i++) s.append("(!".charAt(random.nextInt(2)));
        String middle = random.nextInt(3) > 0 ? "1=1" : "[" + sum(1) + "]<[[" + sum(0) + "]]";
        s.append(middle);
        for (int i = n + 2; i > 2; i--) if (s.charAt(i) == '(') s.append(oneIn(3) ? "&!(!1=[1]))" : ")");
        return s.append(')').toString();
    }

    private String parts(int depth) {
        String s = pieces(depth);
        while (oneIn(4)) s += "|" + pieces(depth);
        return s;
    }

    private String pieces(int depth) {
        String s = piece(depth);
        while (oneIn(4)) s += "&" + piece(depth);
        return s;
    }

    private String piece(int depth) {
        if (depth > 0 && oneIn(6)) return "!" + piece(depth - 1);
        if (depth > 0 && oneIn(6)) return "(" + parts(depth - 1) + ")";
        if (oneIn(3)) return "1=1";
        return sum(depth) + "<>=".charAt(random.nextInt(3)) + sum(depth);
    }

    private String sum(int depth) {
        String s = term(depth);
        while (oneIn(3)) s += (oneIn(2) ? "+" : "-") + term(depth);
        return s;
    }

    private String term(int depth) {
        String s = factor(depth);
        while (oneIn(4)) s += "*/%".charAt(random.nextInt(3)) + factor(depth);
        return s;
    }

    private String factor(int depth) {
        if (depth > 0 && oneIn(8)) return "[" + sum(depth - 1) + "]";
        if (oneIn(2)) return "" + (oneIn(8) ? random.nextInt(100000) : random.nextInt(12));
        return "" + "ydwcrtpgiznbq".charAt(random.nextInt(13));
    }

    /** The text with some signs put in, taken away or changed. */
    String spoilt(String text) {
        StringBuilder s = new StringBuilder(text);
        for (int i = random.nextInt(3); i >= 0; i--) {
            int at = random.nextInt(s.length() + 1);
            char c = SIGNS.charAt(random.nextInt(SIGNS.length()));
            int way = random.nextInt(4);
            if (way == 0 && at < s.length()) s.deleteCharAt(at);
            else if (way == 1 && at < s.length()) s.setCharAt(at, c);
            else if (way == 2) s.insert(at, ("" + c).repeat(1 + random.nextInt(8)));
            else if (s.length() > 1) s.setLength(Math.max(1, at));
        }
        if (s.length() > 200) s.setLength(200);
        return s.toString();
    }
}
