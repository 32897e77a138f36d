import java.util.Arrays;

/** A mint on a hill: what porters lose of their gold by yards, and who gets it. See README.md. */
public final class DustMint {
    public static final int NONE = -1;

    private static final int YARDS = 20;
    private static final int PORTERS = 9;
    private static final int BEGGARS = 6;
    private static final int NOBODY = BEGGARS;
    private static final int RAINY_HOURS = 100;
    private static final int MOST_DUST = 99999;
    private static final int MOST_BOWL = 9999;
    private static final int MOST_WIND = 3;
    private static final int MOST_HOURS = 40;
    private static final int MOST_SEARCHED_HOURS = 20;
    private static final int MOST_SIEVED = 3;
    private static final int MOST_SWAPPED = 6;
    private static final int MOST_TAPE = 220;
    private static final int MOST_TEXT = 200;
    private static final int NOT_THERE = -2;
    private static final int NO_PORTER = -3;
    private static final int NO_YARD = -1000;
    private static final int SWAP_THEM = 9;
    private static final int HOW_MANY = 3;
    private static final int TOLD_DRAW = 5;

    private final Tape tape = new Tape();
    private final Tape keptTape = new Tape();
    private final Law text = new Law();
    private final Reader reader = new Reader(tape);
    private final Hill hill = new Hill();
    private final Hill keptHill = new Hill();
    private final Hill trial = new Hill();
    private final Sieving sieving = new Sieving(hill, trial, text);
    private final Swapping swapping = new Swapping(hill, trial, text);
    private final int[] without = new int[YARDS];
    private final int[] worths = new int[BEGGARS];
    private boolean isKept = false;

    public DustMint() {
    }

    public boolean yard(int y, int dust, int wind, boolean carpet) {
        if (!isYard(y) || !isWithin(dust, 0, MOST_DUST) || !isWithin(wind, -MOST_WIND, MOST_WIND)) {
            return false;
        }
        hill.dust[y] = dust;
        hill.wind[y] = wind;
        hill.carpets[y] = carpet ? 1 : 0;
        return true;
    }

    public boolean rain(int hour, int n) {
        if (!isWithin(hour, 0, RAINY_HOURS - 1) || !isWithin(n, 0, 9)) {
            return false;
        }
        hill.rains[hour] = n;
        return true;
    }

    public boolean porter(int p, int yard, int bowl, int limp, int sneeze) {
        if (!isPorter(p) || !isYard(yard) || !isWithin(bowl, 0, MOST_BOWL)) {
            return false;
        }
        if (!isWithin(limp, 0, 9) || !isWithin(sneeze, 0, 9)) {
            return false;
        }
        hill.told |= 1 << p;
        hill.places[p] = yard;
        hill.bowl[p] = bowl;
        hill.limps[p] = limp;
        hill.sneezes[p] = sneeze;
        return true;
    }

    public boolean licence(int y, int beggar) {
        if (!isYard(y) || !isWithin(beggar, NONE, BEGGARS - 1)) {
            return false;
        }
        hill.licences[y] = beggar == NONE ? NOBODY : beggar;
        return true;
    }

    public boolean skill(int beggar, int n) {
        if (!isBeggar(beggar) || !isWithin(n, 0, 9)) {
            return false;
        }
        hill.skills[beggar] = n;
        return true;
    }

    public int feed(int a, int b, int c, int d, int e) {
        if (!tape.hasRoom(20)) {
            return NONE;
        }
        tape.putNumber(a);
        tape.putNumber(b);
        tape.putNumber(c);
        tape.putNumber(d);
        tape.putNumber(e);
        return tape.size;
    }

    public int law(int n) {
        if (!isWithin(n, 1, MOST_TEXT) || tape.size < n) {
            return NONE;
        }
        int answer = reader.readText(n);
        tape.size = 0;
        if (answer >= 0) {
            text.take(reader.found);
        }
        return answer;
    }

    public int hours(int n) {
        return isWithin(n, 1, MOST_HOURS) ? hill.passDrawn(text, n) : NONE;
    }

    public int hour(int draw) {
        return isWithin(draw, 0, 9) ? hill.pass(text, draw) : NONE;
    }

    public int yardIs(int y, int what) {
        if (!isYard(y)) {
            return NO_YARD;
        }
        switch (what) {
            case 0: return hill.dust[y];
            case 1: return hill.wind[y];
            case 2: return hill.carpets[y];
            case 3: return hill.licences[y];
            default: return NO_YARD;
        }
    }

    public int porterIs(int p, int what) {
        if (!hill.isTold(p)) {
            return NONE;
        }
        switch (what) {
            case 0: return hill.places[p];
            case 1: return hill.bowl[p];
            case 2: return hill.limps[p];
            case 3: return hill.sneezes[p];
            case 4: return hill.loss(text, p, TOLD_DRAW);
            default: return NONE;
        }
    }

    public int tried(int n, int what) {
        if (!isWithin(n, 1, MOST_HOURS) || !isTriable(what)) {
            return NONE;
        }
        trial.takeAll(hill);
        int lost = trial.passDrawn(text, n);
        if (what >= 40) {
            return isYard(what - 40) ? trial.dust[what - 40] : NONE;
        }
        if (what >= 30) {
            return isBeggar(what - 30) ? trial.purses[what - 30] : NONE;
        }
        if (what >= 20) {
            return isPorter(what - 20) ? trial.places[what - 20] : NONE;
        }
        if (what >= 10) {
            return isPorter(what - 10) ? trial.bowl[what - 10] : NONE;
        }
        switch (what) {
            case 0: return trial.gold;
            case 1: return trial.river;
            case 2: return trial.gone;
            default: return lost;
        }
    }

    private boolean isTriable(int what) {
        if (what >= 40) {
            return isYard(what - 40);
        }
        if (what >= 30) {
            return isBeggar(what - 30);
        }
        if (what >= 20) {
            return hill.isTold(what - 20);
        }
        if (what >= 10) {
            return hill.isTold(what - 10);
        }
        return isWithin(what, 0, 3);
    }

    public int sieved(int beggar, int n, int most, int price, int what) {
        if (!isBeggar(beggar) || !isWithin(n, 1, MOST_SEARCHED_HOURS)) {
            return NONE;
        }
        if (!isWithin(most, 1, MOST_SIEVED) || !isWithin(price, 0, 999)) {
            return NONE;
        }
        if (!isWithin(what, NONE, HOW_MANY)) {
            return NOT_THERE;
        }
        sieving.search(beggar, n, most, price);
        if (what == NONE) {
            return sieving.bestGain;
        }
        if (what == HOW_MANY) {
            return sieving.bestSize;
        }
        return sieving.bestAt(what);
    }

    public int bowls(int porters, int n, int what) {
        if (!isWithin(porters, 0, (1 << PORTERS) - 1) || !isWithin(n, 1, MOST_SEARCHED_HOURS)) {
            return NONE;
        }
        if (!isWithin(Integer.bitCount(porters), 2, MOST_SWAPPED)) {
            return NONE;
        }
        boolean ofOne = what != NONE && what != SWAP_THEM;
        if (ofOne && (!isPorter(what) || (porters >> what & 1) == 0)) {
            return NONE;
        }
        if (!hill.allClimb(porters)) {
            return NOT_THERE;
        }
        swapping.search(porters, n);
        if (ofOne) {
            return swapping.whoseFor(what);
        }
        if (what == SWAP_THEM) {
            swapping.swapBest();
        }
        return swapping.least;
    }

    public int carpet(int n, int what) {
        if (!isWithin(n, 1, MOST_SEARCHED_HOURS) || !isWithin(what, 0, 1)) {
            return NONE;
        }
        int best = NOT_THERE;
        int least = Integer.MAX_VALUE;
        trial.takeAll(hill);
        for (int y = 0; y < YARDS; y++) {
            if (hill.carpets[y] == 0) {
                trial.takeMoving(hill);
                trial.carpets[y] = 1;
                int lost = trial.passUnder(text, n, least);
                trial.carpets[y] = 0;
                if (lost < least) {
                    least = lost;
                    best = y;
                }
            }
        }
        return what == 0 || best == NOT_THERE ? best : least;
    }

    public int gust(int y, int wind, int n, int what) {
        if (!isYard(y) || !isWithin(wind, -MOST_WIND, MOST_WIND)) {
            return NONE;
        }
        if (!isWithin(n, 1, MOST_HOURS) || !isWithin(what, 0, 2)) {
            return NONE;
        }
        trial.takeAll(hill);
        trial.passDrawn(text, n);
        System.arraycopy(trial.dust, 0, without, 0, YARDS);
        trial.takeMoving(hill);
        trial.wind[y] = wind;
        trial.passDrawn(text, n);
        int together = 0;
        int gainer = NOT_THERE;
        int gain = 0;
        for (int i = 0; i < YARDS; i++) {
            int more = trial.dust[i] - without[i];
            together += Math.abs(more);
            if (more > gain) {
                gain = more;
                gainer = i;
            }
        }
        switch (what) {
            case 0: return together;
            case 1: return gainer;
            default: return gain;
        }
    }

    public int worth(int y, int beggar, int n) {
        if (!isYard(y) || !isBeggar(beggar) || !isWithin(n, 1, MOST_HOURS)) {
            return NONE;
        }
        tryUnlicensed(y, n);
        return worthTo(y, beggar, n);
    }

    public int sold(int y, int n, int what) {
        if (!isYard(y) || !isWithin(n, 1, MOST_HOURS) || !isWithin(what, 0, 1)) {
            return NONE;
        }
        tryUnlicensed(y, n);
        int first = 0;
        for (int b = 0; b < BEGGARS; b++) {
            worths[b] = worthTo(y, b, n);
            if (worths[b] > worths[first]) {
                first = b;
            }
        }
        if (what == 0) {
            return first;
        }
        int next = Integer.MIN_VALUE;
        for (int b = 0; b < BEGGARS; b++) {
            if (b != first) {
                next = Math.max(next, worths[b]);
            }
        }
        return next;
    }

    /** Puts the purses behind n hours into the row, as if nobody had the yard. */
    private void tryUnlicensed(int y, int n) {
        trial.takeAll(hill);
        if (isYard(y)) {
            trial.licences[y] = NOBODY;
        }
        trial.passDrawn(text, n);
        System.arraycopy(trial.purses, 0, without, 0, BEGGARS);
    }

    private int worthTo(int y, int beggar, int n) {
        if (!isYard(y) || !isBeggar(beggar)) {
            return NONE;
        }
        trial.takeMoving(hill);
        trial.licences[y] = beggar;
        trial.passDrawn(text, n);
        return trial.purses[beggar] - without[beggar];
    }

    public int shook(int p, int n, int what) {
        if (!isWithin(n, 1, 8) || !isWithin(what, NONE, 1) || tape.size < n) {
            return NONE;
        }
        // The bytes stay readable behind this: what was fed is overwritten only by later bytes.
        tape.size = 0;
        if (!hill.climbs(p)) {
            return NO_PORTER;
        }
        int many = 0;
        int first = NOT_THERE;
        trial.takeAll(hill);
        for (int i = 0; i < 100; i++) {
            if (wouldShake(p, n, i / 10, i % 10)) {
                first = many == 0 ? i : first;
                many++;
            }
        }
        if (what == NONE) {
            return many;
        }
        if (many == 0) {
            return NOT_THERE;
        }
        return what == 0 ? first / 10 : first % 10;
    }

    /** Whether the porter would lose just what the tape's first n bytes tell, with such a limp and sneeze. */
    private boolean wouldShake(int p, int n, int limp, int sneeze) {
        if (!isPorter(p)) {
            return false;
        }
        trial.takeMoving(hill);
        trial.limps[p] = limp;
        trial.sneezes[p] = sneeze;
        for (int h = 0; h < n; h++) {
            int before = trial.ledTo(p);
            trial.passDrawn(text, 1);
            if (trial.ledTo(p) - before != tape.byteAt(h)) {
                return false;
            }
        }
        return true;
    }

    public int led(int p, int y) {
        if (p != NONE && !isPorter(p) || y != NONE && !isYard(y)) {
            return NOT_THERE;
        }
        return hill.sumLed(p, y);
    }

    public int share(int p, int y, int what) {
        if (!isPorter(p) || !isYard(y) || !isWithin(what, 0, 1)) {
            return NONE;
        }
        int all = hill.sumLed(NONE, y);
        return all == 0 ? NOT_THERE : reduced(hill.sumLed(p, y), all, what);
    }

    public int odds(int n, int gold, int what) {
        if (!isWithin(n, 1, 3) || !isWithin(gold, 0, MOST_DUST) || !isWithin(what, 0, 1)) {
            return NONE;
        }
        int all = n == 1 ? 10 : n == 2 ? 100 : 1000;
        int hits = 0;
        trial.takeAll(hill);
        for (int i = 0; i < all; i++) {
            trial.takeMoving(hill);
            int draws = i;
            for (int h = 0; h < n; h++) {
                trial.pass(text, draws % 10);
                draws /= 10;
            }
            if (trial.gold >= gold) {
                hits++;
            }
        }
        return reduced(hits, all, what);
    }

    public boolean seed(int x) {
        if (!isWithin(x, 0, 65535)) {
            return false;
        }
        hill.x = x;
        return true;
    }

    public int keep() {
        keptHill.takeAll(hill);
        keptTape.take(tape);
        isKept = true;
        return hill.clock;
    }

    public boolean undo() {
        if (!isKept) {
            return false;
        }
        hill.takeAll(keptHill);
        tape.take(keptTape);
        return true;
    }

    public int check(int n) {
        if (!isWithin(n, 0, YARDS) || tape.size < 4 * n) {
            return NOT_THERE;
        }
        tape.size = 0;
        for (int y = 0; y < n; y++) {
            if (tape.numberAt(y) != hill.dust[y]) {
                return y;
            }
        }
        return NONE;
    }

    public int count(int what) {
        if (isWithin(what, 100, 100 + RAINY_HOURS - 1)) {
            return hill.rains[what - 100];
        }
        if (isBeggar(what - 20)) {
            return hill.skills[what - 20];
        }
        if (isBeggar(what - 10)) {
            return hill.purses[what - 10];
        }
        switch (what) {
            case 0: return hill.clock;
            case 1: return text.clauses;
            case 2: return tape.size;
            case 3: return hill.x;
            case 4: return hill.gold;
            case 5: return hill.river;
            case 6: return hill.gone;
            case 7: return hill.sumDust();
            case 8: return hill.told;
            default: return NONE;
        }
    }

    private static boolean isWithin(int n, int least, int most) {
        return n >= least && n <= most;
    }

    private static boolean isYard(int y) {
        return y >= 0 && y < YARDS;
    }

    private static boolean isPorter(int p) {
        return p >= 0 && p < PORTERS;
    }

    private static boolean isBeggar(int b) {
        return b >= 0 && b < BEGGARS;
    }

    /** Above (0) or below (1) the line of a fraction without a common divisor. */
    private static int reduced(int above, int below, int what) {
        int a = below;
        int b = above;
        // Euclid's steps on 32 bits are fewer than 50.
        for (int i = 0; i < 100 && b != 0; i++) {
            int rest = a % b;
            a = b;
            b = rest;
        }
        if (a == 0) {
            return 0;
        }
        return what == 0 ? above / a : below / a;
    }

    /** Bytes that have been fed and not yet been used. */
    private static final class Tape {
        final int[] bytes = new int[MOST_TAPE];
        int size = 0;

        boolean hasRoom(int n) {
            return size + n <= MOST_TAPE;
        }

        void putNumber(int n) {
            for (int shift = 24; shift >= 0; shift -= 8) {
                if (size >= 0 && size < MOST_TAPE) {
                    bytes[size] = n >> shift & 255;
                    size++;
                }
            }
        }

        int byteAt(int i) {
            return i >= 0 && i < MOST_TAPE ? bytes[i] : NONE;
        }

        int numberAt(int i) {
            int n = 0;
            for (int k = 0; k < 4; k++) {
                n = n << 8 | byteAt(4 * i + k);
            }
            return n;
        }

        void take(Tape other) {
            System.arraycopy(other.bytes, 0, bytes, 0, MOST_TAPE);
            size = other.size;
        }
    }

    /** THE LAW as steps for a machine with a stack, so that reckoning makes no objects and needs no recursion. */
    private static final class Law {
        static final int MOST_CLAUSES = 14;
        static final int STACK = 40;
        static final int MOST_AMOUNT = 99;
        static final int NUMBER = 0;
        static final int LETTER = 1;
        static final int OR = 2;
        static final int AND = 3;
        static final int NOT = 4;
        static final String LETTERS = "ydwcrtpgiznbq";

        final int[] kinds = new int[MOST_TEXT];
        final int[] operands = new int[MOST_TEXT];
        int steps = 0;
        final int[] letters = new int[MOST_CLAUSES];
        final int[] starts = new int[MOST_CLAUSES];
        final int[] middles = new int[MOST_CLAUSES];
        final int[] ends = new int[MOST_CLAUSES];
        int clauses = 0;
        /** What each of LETTERS stands for now. */
        final int[] sees = new int[13];
        private final int[] stack = new int[STACK];
        private boolean isRefused = false;

        void take(Law other) {
            System.arraycopy(other.kinds, 0, kinds, 0, MOST_TEXT);
            System.arraycopy(other.operands, 0, operands, 0, MOST_TEXT);
            System.arraycopy(other.letters, 0, letters, 0, MOST_CLAUSES);
            System.arraycopy(other.starts, 0, starts, 0, MOST_CLAUSES);
            System.arraycopy(other.middles, 0, middles, 0, MOST_CLAUSES);
            System.arraycopy(other.ends, 0, ends, 0, MOST_CLAUSES);
            steps = other.steps;
            clauses = other.clauses;
        }

        /** Puts a step behind the others and tells its place. */
        int putStep(int kind, int operand) {
            if (steps < 0 || steps >= MOST_TEXT) {
                return 0;
            }
            kinds[steps] = kind;
            operands[steps] = operand;
            steps++;
            return steps - 1;
        }

        /** OR and AND go on behind the last step that there is now, if what is before them settles it. */
        void leadToEnd(int step) {
            if (step >= 0 && step < MOST_TEXT) {
                operands[step] = steps - 1;
            }
        }

        boolean has(int letter) {
            for (int c = 0; c < clauses && c < MOST_CLAUSES; c++) {
                if (letters[c] == letter) {
                    return true;
                }
            }
            return false;
        }

        int amount(int letter) {
            for (int c = 0; c < clauses && c < MOST_CLAUSES; c++) {
                if (letters[c] == letter && reckon(middles[c], ends[c]) != 0) {
                    int n = reckon(starts[c], middles[c]);
                    return Math.max(0, Math.min(MOST_AMOUNT, n));
                }
            }
            return 0;
        }

        /** What the steps answer: an E its number, a C 1 or 0; 0 if it is refused. */
        private int reckon(int from, int to) {
            isRefused = false;
            int top = 0;
            for (int at = Math.max(0, from); at < to && at < MOST_TEXT; at++) {
                int kind = kinds[at];
                if (kind <= LETTER) {
                    if (top >= STACK) {
                        return 0;
                    }
                    stack[top] = kind == NUMBER ? operands[at] : seen(operands[at]);
                    top++;
                } else if (top < 1) {
                    return 0;
                } else if (kind == NOT) {
                    stack[top - 1] = 1 - stack[top - 1];
                } else if (kind <= AND) {
                    if (stack[top - 1] != 0 == (kind == OR)) {
                        // Only ever onward, so that the loop ends.
                        at = Math.max(at, operands[at]);
                    } else {
                        top--;
                    }
                } else if (top < 2) {
                    return 0;
                } else {
                    top--;
                    stack[top - 1] = join(kind, stack[top - 1], stack[top]);
                    if (isRefused) {
                        return 0;
                    }
                }
            }
            return top == 1 ? stack[0] : 0;
        }

        private int seen(int letter) {
            return letter >= 0 && letter < 13 ? sees[letter] : 0;
        }

        private int join(int sign, int a, int b) {
            switch (sign) {
                case '+': return a + b;
                case '-': return a - b;
                case '*': return a * b;
                case '<': return a < b ? 1 : 0;
                case '>': return a > b ? 1 : 0;
                case '=': return a == b ? 1 : 0;
                default: break;
            }
            if (b == 0) {
                isRefused = true;
                return 0;
            }
            return sign == '/' ? a / b : a % b;
        }
    }

    /** Reads THE LAW's text from the tape; each reading method tells whether it found no fault. */
    private static final class Reader {
        static final int MOST_OPEN = 6;
        static final int MOST_DIGITS = 5;
        static final int MISPLACED = 1;
        static final int SIXTH_DIGIT = 2;
        static final int FIFTEENTH_CLAUSE = 4;
        static final int SEVENTH_OPEN = 5;
        static final String CLAUSE_LETTERS = "lmks";

        final Law found = new Law();
        private final Tape tape;
        private int size = 0;
        private int at = 0;
        private int fault = 0;

        Reader(Tape tape) {
            this.tape = tape;
        }

        /** How many clauses the first n bytes have, or their fault. */
        int readText(int n) {
            size = n;
            at = 0;
            fault = 0;
            found.steps = 0;
            found.clauses = 0;
            boolean goesOn = true;
            // A clause has four bytes at least, so that the text's end is always met.
            for (int i = 0; i < MOST_TEXT && goesOn; i++) {
                if (!readClause()) {
                    return fault;
                }
                goesOn = next() == ';';
                if (goesOn) {
                    at++;
                }
            }
            if (at < size) {
                fail(MISPLACED);
                return fault;
            }
            return found.clauses;
        }

        private int next() {
            return at < size ? tape.byteAt(at) : NONE;
        }

        private boolean fail(int number) {
            fault = -1000 * number - at;
            return false;
        }

        private boolean pass(int sign) {
            if (next() != sign) {
                return fail(MISPLACED);
            }
            at++;
            return true;
        }

        /** Passes one of ( [ ! if no more than six are open with it. */
        private boolean open(int sign, int opened) {
            if (next() != sign) {
                return fail(MISPLACED);
            }
            return opened >= MOST_OPEN ? fail(SEVENTH_OPEN) : pass(sign);
        }

        private boolean readClause() {
            int letter = next();
            if (letter < 0 || CLAUSE_LETTERS.indexOf((char) letter) < 0) {
                return fail(MISPLACED);
            }
            int c = found.clauses;
            if (c < 0 || c >= Law.MOST_CLAUSES) {
                return fail(FIFTEENTH_CLAUSE);
            }
            at++;
            found.letters[c] = letter;
            found.starts[c] = found.steps;
            if (!readSum(0)) {
                return false;
            }
            found.middles[c] = found.steps;
            if (!open('(', 0) || !readParts(1) || !pass(')')) {
                return false;
            }
            found.ends[c] = found.steps;
            found.clauses = c + 1;
            return true;
        }

        private boolean readParts(int opened) {
            if (!readPieces(opened)) {
                return false;
            }
            for (int i = 0; i < MOST_TEXT && next() == '|'; i++) {
                at++;
                int step = found.putStep(Law.OR, 0);
                if (!readPieces(opened)) {
                    return false;
                }
                found.leadToEnd(step);
            }
            return true;
        }

        private boolean readPieces(int opened) {
            if (!readPiece(opened)) {
                return false;
            }
            for (int i = 0; i < MOST_TEXT && next() == '&'; i++) {
                at++;
                int step = found.putStep(Law.AND, 0);
                if (!readPiece(opened)) {
                    return false;
                }
                found.leadToEnd(step);
            }
            return true;
        }

        private boolean readPiece(int opened) {
            int sign = next();
            if (sign == '!') {
                if (!open('!', opened) || !readPiece(opened + 1)) {
                    return false;
                }
                found.putStep(Law.NOT, 0);
                return true;
            }
            if (sign == '(') {
                return open('(', opened) && readParts(opened + 1) && pass(')');
            }
            if (!readSum(opened)) {
                return false;
            }
            int how = next();
            if (how != '<' && how != '>' && how != '=') {
                return fail(MISPLACED);
            }
            at++;
            if (!readSum(opened)) {
                return false;
            }
            found.putStep(how, 0);
            return true;
        }

        private boolean readSum(int opened) {
            if (!readTerm(opened)) {
                return false;
            }
            for (int i = 0; i < MOST_TEXT && (next() == '+' || next() == '-'); i++) {
                int sign = next();
                at++;
                if (!readTerm(opened)) {
                    return false;
                }
                found.putStep(sign, 0);
            }
            return true;
        }

        private boolean readTerm(int opened) {
            if (!readFactor(opened)) {
                return false;
            }
            for (int i = 0; i < MOST_TEXT && (next() == '*' || next() == '/' || next() == '%'); i++) {
                int sign = next();
                at++;
                if (!readFactor(opened)) {
                    return false;
                }
                found.putStep(sign, 0);
            }
            return true;
        }

        private boolean readFactor(int opened) {
            int sign = next();
            if (sign == '[') {
                return open('[', opened) && readSum(opened + 1) && pass(']');
            }
            if (isDigit(sign)) {
                return readNumber();
            }
            int letter = sign < 0 ? NONE : Law.LETTERS.indexOf((char) sign);
            if (letter < 0) {
                return fail(MISPLACED);
            }
            at++;
            found.putStep(Law.LETTER, letter);
            return true;
        }

        private boolean readNumber() {
            int n = 0;
            for (int i = 0; i < MOST_DIGITS && isDigit(next()); i++) {
                n = 10 * n + next() - '0';
                at++;
            }
            if (isDigit(next())) {
                return fail(SIXTH_DIGIT);
            }
            found.putStep(Law.NUMBER, n);
            return true;
        }

        private static boolean isDigit(int sign) {
            return sign >= '0' && sign <= '9';
        }
    }

    /** All that is kept and undone but the tape; what an hour does. */
    private static final class Hill {
        final int[] dust = new int[YARDS];
        final int[] wind = new int[YARDS];
        final int[] carpets = new int[YARDS];
        final int[] licences = new int[YARDS];
        final int[] skills = new int[BEGGARS];
        final int[] purses = new int[BEGGARS];
        int told = 0;
        final int[] places = new int[PORTERS];
        final int[] bowl = new int[PORTERS];
        final int[] limps = new int[PORTERS];
        final int[] sneezes = new int[PORTERS];
        final int[] rains = new int[RAINY_HOURS];
        final int[] leds = new int[PORTERS * YARDS];
        int clock = 0;
        int x = 1;
        int gold = 0;
        int river = 0;
        int gone = 0;
        private final int[] moved = new int[YARDS];

        Hill() {
            Arrays.fill(licences, NOBODY);
        }

        void takeAll(Hill other) {
            takeMoving(other);
            told = other.told;
            System.arraycopy(other.wind, 0, wind, 0, YARDS);
            System.arraycopy(other.carpets, 0, carpets, 0, YARDS);
            System.arraycopy(other.licences, 0, licences, 0, YARDS);
            System.arraycopy(other.skills, 0, skills, 0, BEGGARS);
            System.arraycopy(other.limps, 0, limps, 0, PORTERS);
            System.arraycopy(other.sneezes, 0, sneezes, 0, PORTERS);
            System.arraycopy(other.rains, 0, rains, 0, RAINY_HOURS);
            System.arraycopy(other.leds, 0, leds, 0, PORTERS * YARDS);
        }

        /** Takes what hours change, but for what was led: a trial of many hills needs no more for each. */
        void takeMoving(Hill other) {
            System.arraycopy(other.dust, 0, dust, 0, YARDS);
            System.arraycopy(other.purses, 0, purses, 0, BEGGARS);
            System.arraycopy(other.places, 0, places, 0, PORTERS);
            System.arraycopy(other.bowl, 0, bowl, 0, PORTERS);
            clock = other.clock;
            x = other.x;
            gold = other.gold;
            river = other.river;
            gone = other.gone;
        }

        boolean isTold(int p) {
            return isPorter(p) && (told >> p & 1) != 0;
        }

        /** Whether there is such a porter that has not arrived. */
        boolean climbs(int p) {
            return isTold(p) && isYard(places[p]);
        }

        boolean allClimb(int porters) {
            for (int p = 0; p < PORTERS; p++) {
                if ((porters >> p & 1) != 0 && !climbs(p)) {
                    return false;
                }
            }
            return true;
        }

        int sumDust() {
            int sum = 0;
            for (int y = 0; y < YARDS; y++) {
                sum += dust[y];
            }
            return sum;
        }

        /** What was led to a porter (NONE: to all) at a yard (NONE: at all). */
        int sumLed(int p, int y) {
            int sum = 0;
            for (int i = 0; i < PORTERS * YARDS; i++) {
                if ((p == NONE || i / YARDS == p) && (y == NONE || i % YARDS == y)) {
                    sum += leds[i];
                }
            }
            return sum;
        }

        int ledTo(int p) {
            int sum = 0;
            for (int y = 0; y < YARDS && isPorter(p); y++) {
                sum += leds[p * YARDS + y];
            }
            return sum;
        }

        /** Hours by draws: how much is lost in them. */
        int passDrawn(Law law, int n) {
            return passUnder(law, n, Integer.MAX_VALUE);
        }

        /** As passDrawn, but ends once so much is lost that it can't be the least any more. */
        int passUnder(Law law, int n, int limit) {
            int lost = 0;
            for (int h = 0; h < n && lost < limit; h++) {
                x = 25173 * x + 13849 & 65535;
                lost += pass(law, x % 10);
            }
            return lost;
        }

        int pass(Law law, int draw) {
            int lost = spill(law, draw);
            climb();
            blow(law);
            wash(law);
            sieve(law);
            clock++;
            return lost;
        }

        private int spill(Law law, int draw) {
            int lost = 0;
            for (int p = 0; p < PORTERS; p++) {
                int n = loss(law, p, draw);
                int y = places[p];
                if (n > 0 && isYard(y)) {
                    bowl[p] -= n;
                    leds[p * YARDS + y] += n;
                    lost += n;
                    heap(y, n);
                }
            }
            return lost;
        }

        int loss(Law law, int p, int draw) {
            if (!climbs(p) || bowl[p] == 0) {
                return 0;
            }
            int y = places[p];
            show(law, y);
            law.sees[6] = p;
            law.sees[7] = bowl[p];
            law.sees[8] = limps[p];
            law.sees[9] = draw == sneezes[p] ? 1 : 0;
            law.sees[10] = crowd(y);
            return Math.min(bowl[p], law.amount('l'));
        }

        private int crowd(int y) {
            int n = 0;
            for (int p = 0; p < PORTERS; p++) {
                if (isTold(p) && places[p] == y) {
                    n++;
                }
            }
            return n;
        }

        /** Lets the law see a yard and the hour, and no porter or beggar yet. */
        private void show(Law law, int y) {
            if (!isYard(y)) {
                return;
            }
            law.sees[0] = y;
            law.sees[1] = dust[y];
            law.sees[2] = wind[y];
            law.sees[3] = carpets[y];
            law.sees[4] = clock >= 0 && clock < RAINY_HOURS ? rains[clock] : 0;
            law.sees[5] = clock;
            Arrays.fill(law.sees, 6, 13, 0);
        }

        private void heap(int y, int n) {
            if (!isYard(y)) {
                gone += n;
                return;
            }
            dust[y] += n;
            if (dust[y] > MOST_DUST) {
                gone += dust[y] - MOST_DUST;
                dust[y] = MOST_DUST;
            }
        }

        private void climb() {
            for (int p = 0; p < PORTERS; p++) {
                if (climbs(p) && clock % 10 >= limps[p]) {
                    places[p]++;
                    if (places[p] == YARDS) {
                        gold += bowl[p];
                        bowl[p] = 0;
                    }
                }
            }
        }

        private void blow(Law law) {
            if (!law.has('m')) {
                return;
            }
            for (int y = 0; y < YARDS; y++) {
                moved[y] = wind[y] == 0 ? 0 : taken(law, 'm', y);
            }
            // All leave ahead of any that comes: a full yard has room for what it gives away.
            for (int y = 0; y < YARDS; y++) {
                dust[y] -= moved[y];
            }
            for (int y = 0; y < YARDS; y++) {
                if (moved[y] > 0) {
                    heap(wind[y] > 0 ? y + 1 : y - 1, moved[y]);
                }
            }
        }

        private void wash(Law law) {
            if (!law.has('k')) {
                return;
            }
            for (int y = 0; y < YARDS; y++) {
                int n = taken(law, 'k', y);
                dust[y] -= n;
                river += n;
            }
        }

        private void sieve(Law law) {
            if (!law.has('s')) {
                return;
            }
            for (int y = 0; y < YARDS; y++) {
                int b = licences[y];
                if (isBeggar(b)) {
                    int n = taken(law, 's', y);
                    dust[y] -= n;
                    purses[b] += n;
                }
            }
        }

        /** How many grains a clause takes from a yard: as much as is there. */
        private int taken(Law law, int letter, int y) {
            if (!isYard(y) || dust[y] == 0) {
                return 0;
            }
            show(law, y);
            if (letter == 's' && isBeggar(licences[y])) {
                law.sees[11] = licences[y];
                law.sees[12] = skills[licences[y]];
            }
            return Math.min(dust[y], law.amount(letter));
        }
    }

    /** Which yards without a licence a beggar best sieves. */
    private static final class Sieving {
        final int[] best = new int[MOST_SIEVED];
        int bestSize = 0;
        int bestGain = 0;
        private final int[] row = new int[MOST_SIEVED];
        private final Hill hill;
        private final Hill trial;
        private final Law law;
        private int beggar = 0;
        private int n = 0;
        private int price = 0;

        Sieving(Hill hill, Hill trial, Law law) {
            this.hill = hill;
            this.trial = trial;
            this.law = law;
        }

        /** Fewer yards are tried first, and lesser rows, so that only what is truly more replaces the best. */
        void search(int who, int hours, int most, int cost) {
            beggar = who;
            n = hours;
            price = cost;
            trial.takeAll(hill);
            bestSize = 0;
            bestGain = Integer.MIN_VALUE;
            for (int size = 0; size <= most && size <= MOST_SIEVED; size++) {
                choose(0, 0, size);
            }
        }

        int bestAt(int place) {
            return place >= 0 && place < bestSize && place < MOST_SIEVED ? best[place] : NOT_THERE;
        }

        private void choose(int place, int from, int size) {
            if (place >= size || place >= MOST_SIEVED) {
                weigh(size);
                return;
            }
            for (int y = Math.max(0, from); y < YARDS; y++) {
                if (hill.licences[y] == NOBODY) {
                    row[place] = y;
                    trial.licences[y] = beggar;
                    choose(place + 1, y + 1, size);
                    trial.licences[y] = NOBODY;
                }
            }
        }

        private void weigh(int size) {
            if (!isBeggar(beggar)) {
                return;
            }
            trial.takeMoving(hill);
            trial.passDrawn(law, n);
            int gain = trial.purses[beggar] - hill.purses[beggar] - size * price;
            if (gain > bestGain) {
                bestGain = gain;
                bestSize = size;
                System.arraycopy(row, 0, best, 0, MOST_SIEVED);
            }
        }
    }

    /** Which porter best gets whose bowl. */
    private static final class Swapping {
        int least = 0;
        private final int[] who = new int[MOST_SWAPPED];
        private final int[] row = new int[MOST_SWAPPED];
        private final int[] best = new int[MOST_SWAPPED];
        private final Hill hill;
        private final Hill trial;
        private final Law law;
        private int size = 0;
        private int n = 0;

        Swapping(Hill hill, Hill trial, Law law) {
            this.hill = hill;
            this.trial = trial;
            this.law = law;
        }

        /** Lesser rows are tried first, so that only what truly loses less replaces the best. */
        void search(int porters, int hours) {
            n = hours;
            size = 0;
            for (int p = 0; p < PORTERS; p++) {
                if ((porters >> p & 1) != 0 && size >= 0 && size < MOST_SWAPPED) {
                    who[size] = p;
                    size++;
                }
            }
            least = Integer.MAX_VALUE;
            trial.takeAll(hill);
            choose(0, 0);
        }

        private void choose(int place, int used) {
            if (place >= size || place >= MOST_SWAPPED) {
                weigh();
                return;
            }
            for (int i = 0; i < size && i < MOST_SWAPPED; i++) {
                if ((used >> i & 1) == 0) {
                    row[place] = who[i];
                    choose(place + 1, used | 1 << i);
                }
            }
        }

        private void weigh() {
            trial.takeMoving(hill);
            handOut(trial, hill, row);
            int lost = trial.passUnder(law, n, least);
            if (lost < least) {
                least = lost;
                System.arraycopy(row, 0, best, 0, MOST_SWAPPED);
            }
        }

        int whoseFor(int p) {
            for (int i = 0; i < size && i < MOST_SWAPPED; i++) {
                if (who[i] == p) {
                    return best[i];
                }
            }
            return NONE;
        }

        void swapBest() {
            trial.takeMoving(hill);
            handOut(hill, trial, best);
        }

        private void handOut(Hill to, Hill from, int[] order) {
            for (int i = 0; i < size && i < MOST_SWAPPED && i < order.length; i++) {
                if (isPorter(who[i]) && isPorter(order[i])) {
                    to.bowl[who[i]] = from.bowl[order[i]];
                }
            }
        }
    }
}
