import java.util.Arrays;

/** A mint on a hill: what porters lose of their gold by yards, and who gets it. See README.md. */
public final class DustMint {
    public static final int NONE = -1;

    private static final int YARDS = 20;
    private static final int PORTERS = 9;
    private static final int BEGGARS = 6;
    private static final int NOBODY = BEGGARS;
    private static final int RAINY_HOURS = 100;
    private static final int MOST_DUST = 99999;
    private static final int MOST_BOWL = 9999;
    private static final int MOST_WIND = 3;
    private static final int MOST_HOURS = 40;
    private static final int MOST_SEARCHED_HOURS = 20;
    private static final int MOST_SIEVED = 3;
    private static final int MOST_SWAPPED = 6;
    private static final int MOST_TAPE = 220;
    private static final int MOST_TEXT = 200;
    private static final int NOT_THERE = -2;
    private static final int NO_PORTER = -3;
    private static final int NO_YARD = -1000;
    private static final int SWAP_THEM = 9;
    private static final int HOW_MANY = 3;
    private static final int TOLD_DRAW = 5;
    /** Above all that can be lost or gained in any trial. */
    private static final int BEYOND = 1000000000;

    private final Tape tape = new Tape();
    private final Tape keptTape = new Tape();
    private final Law text = new Law();
    private final Reader reader = new Reader(tape);
    private final Hill hill = new Hill();
    private final Hill keptHill = new Hill();
    private final Hill trial = new Hill();
    private final Sieving sieving = new Sieving(hill, trial, text);
    private final Swap swap = new Swap();
    private final int[] without = new int[YARDS];
    private final int[] worths = new int[BEGGARS];
    private boolean isKept = false;

    public DustMint() {
    }

    public boolean yard(int y, int dust, int wind, boolean carpet) {
        if (!isYard(y) || !isWithin(dust, 0, MOST_DUST) || !isWithin(wind, -MOST_WIND, MOST_WIND)) {
            return false;
        }
        hill.dust[y] = dust;
        hill.wind[y] = wind;
        hill.carpets[y] = carpet ? 1 : 0;
        return true;
    }

    public boolean rain(int hour, int n) {
        if (!isWithin(hour, 0, RAINY_HOURS - 1) || !isWithin(n, 0, 9)) {
            return false;
        }
        hill.rains[hour] = n;
        return true;
    }

    public boolean porter(int p, int yard, int bowl, int limp, int sneeze) {
        if (!isPorter(p) || !isYard(yard) || !isWithin(bowl, 0, MOST_BOWL)) {
            return false;
        }
        if (!isWithin(limp, 0, 9) || !isWithin(sneeze, 0, 9)) {
            return false;
        }
        hill.porters.told |= 1 << p;
        hill.porters.places[p] = yard;
        hill.porters.bowl[p] = bowl;
        hill.porters.limps[p] = limp;
        hill.porters.sneezes[p] = sneeze;
        return true;
    }

    public boolean licence(int y, int beggar) {
        if (!isYard(y) || !isWithin(beggar, NONE, BEGGARS - 1)) {
            return false;
        }
        hill.licences[y] = beggar == NONE ? NOBODY : beggar;
        return true;
    }

    public boolean skill(int beggar, int n) {
        if (!isBeggar(beggar) || !isWithin(n, 0, 9)) {
            return false;
        }
        hill.skills[beggar] = n;
        return true;
    }

    public int feed(int a, int b, int c, int d, int e) {
        if (!tape.hasRoom(20)) {
            return NONE;
        }
        tape.putNumber(a);
        tape.putNumber(b);
        tape.putNumber(c);
        tape.putNumber(d);
        tape.putNumber(e);
        return tape.size;
    }

    public int law(int n) {
        if (!isWithin(n, 1, MOST_TEXT) || tape.size < n) {
            return NONE;
        }
        int answer = reader.readText(n);
        tape.size = 0;
        if (answer >= 0) {
            text.take(reader.found);
        }
        return answer;
    }

    public int hours(int n) {
        return isWithin(n, 1, MOST_HOURS) ? hill.passDrawn(text, n) : NONE;
    }

    public int hour(int draw) {
        return isWithin(draw, 0, 9) ? hill.pass(text, draw) : NONE;
    }

    public int yardIs(int y, int what) {
        if (!isYard(y)) {
            return NO_YARD;
        }
        switch (what) {
            case 0: return hill.dust[y];
            case 1: return hill.wind[y];
            case 2: return hill.carpets[y];
            case 3: return hill.licences[y];
            default: return NO_YARD;
        }
    }

    public int porterIs(int p, int what) {
        if (!isPorter(p) || !hill.porters.isTold(p)) {
            return NONE;
        }
        switch (what) {
            case 0: return hill.porters.places[p];
            case 1: return hill.porters.bowl[p];
            case 2: return hill.porters.limps[p];
            case 3: return hill.porters.sneezes[p];
            case 4: return hill.loss(text, p, TOLD_DRAW);
            default: return NONE;
        }
    }

    public int tried(int n, int what) {
        if (!isWithin(n, 1, MOST_HOURS) || !isTriable(what)) {
            return NONE;
        }
        trial.takeAll(hill);
        int lost = trial.passDrawn(text, n);
        if (what >= 40) {
            return isYard(what - 40) ? trial.dust[what - 40] : NONE;
        }
        if (what >= 30) {
            return isBeggar(what - 30) ? trial.purses[what - 30] : NONE;
        }
        if (what >= 20) {
            return isPorter(what - 20) ? trial.porters.places[what - 20] : NONE;
        }
        if (what >= 10) {
            return isPorter(what - 10) ? trial.porters.bowl[what - 10] : NONE;
        }
        switch (what) {
            case 0: return trial.gold;
            case 1: return trial.river;
            case 2: return trial.gone;
            default: return lost;
        }
    }

    private boolean isTriable(int what) {
        if (what >= 40) {
            return isYard(what - 40);
        }
        if (what >= 30) {
            return isBeggar(what - 30);
        }
        if (what >= 20) {
            return hill.porters.isTold(what - 20);
        }
        if (what >= 10) {
            return hill.porters.isTold(what - 10);
        }
        return isWithin(what, 0, 3);
    }

    public int sieved(int beggar, int n, int most, int price, int what) {
        if (!isBeggar(beggar) || !isWithin(n, 1, MOST_SEARCHED_HOURS)) {
            return NONE;
        }
        if (!isWithin(most, 1, MOST_SIEVED) || !isWithin(price, 0, 999)) {
            return NONE;
        }
        if (!isWithin(what, NONE, HOW_MANY)) {
            return NOT_THERE;
        }
        sieving.begin(beggar, n, price);
        sieving.weighOnes();
        if (most >= 2) {
            sieving.weighPairs();
        }
        if (most >= 3) {
            sieving.weighTriples();
        }
        if (what == NONE) {
            return sieving.bestGain;
        }
        if (what == HOW_MANY) {
            return sieving.bestSize;
        }
        return sieving.bestAt(what);
    }

    public int bowls(int porters, int n, int what) {
        if (!isWithin(porters, 0, (1 << PORTERS) - 1) || !isWithin(n, 1, MOST_SEARCHED_HOURS)) {
            return NONE;
        }
        if (!isWithin(Integer.bitCount(porters), 2, MOST_SWAPPED)) {
            return NONE;
        }
        boolean ofOne = what != NONE && what != SWAP_THEM;
        if (ofOne && (!isPorter(what) || (porters >> what & 1) == 0)) {
            return NONE;
        }
        if (!hill.porters.allClimb(porters)) {
            return NOT_THERE;
        }
        int least = searchSwap(porters, n);
        if (ofOne) {
            return swap.whoseFor(what);
        }
        if (what == SWAP_THEM) {
            trial.takeMoving(hill);
            swap.handOutBest(trial.porters, hill.porters);
        }
        return least;
    }

    /** Lesser rows are tried first, so that only what truly loses less replaces the best. */
    private int searchSwap(int porters, int n) {
        int least = BEYOND;
        boolean goesOn = true;
        swap.begin(porters);
        trial.takeAll(hill);
        trial.needsDust = text.lossSeesDust;
        for (int i = 0; i < Swap.MOST_ROWS && goesOn; i++) {
            trial.takeMoving(hill);
            swap.handOut(hill.porters, trial.porters);
            int lost = trial.passUnder(text, n, least);
            if (lost < least) {
                least = lost;
                swap.holdBest();
            }
            goesOn = swap.goOn();
        }
        return least;
    }

    public int carpet(int n, int what) {
        if (!isWithin(n, 1, MOST_SEARCHED_HOURS) || !isWithin(what, 0, 1)) {
            return NONE;
        }
        int best = NOT_THERE;
        int least = BEYOND;
        trial.takeAll(hill);
        trial.needsDust = text.lossSeesDust;
        for (int y = 0; y < YARDS; y++) {
            if (hill.carpets[y] == 0) {
                trial.takeMoving(hill);
                trial.carpets[y] = 1;
                int lost = trial.passUnder(text, n, least);
                trial.carpets[y] = 0;
                if (lost < least) {
                    least = lost;
                    best = y;
                }
            }
        }
        return what == 0 || best == NOT_THERE ? best : least;
    }

    public int gust(int y, int wind, int n, int what) {
        if (!isYard(y) || !isWithin(wind, -MOST_WIND, MOST_WIND)) {
            return NONE;
        }
        if (!isWithin(n, 1, MOST_HOURS) || !isWithin(what, 0, 2)) {
            return NONE;
        }
        trial.takeAll(hill);
        trial.passDrawn(text, n);
        System.arraycopy(trial.dust, 0, without, 0, YARDS);
        trial.takeMoving(hill);
        trial.wind[y] = wind;
        trial.passDrawn(text, n);
        int together = 0;
        int gainer = NOT_THERE;
        int gain = 0;
        for (int i = 0; i < YARDS; i++) {
            int more = trial.dust[i] - without[i];
            together += Math.abs(more);
            if (more > gain) {
                gain = more;
                gainer = i;
            }
        }
        switch (what) {
            case 0: return together;
            case 1: return gainer;
            default: return gain;
        }
    }

    public int worth(int y, int beggar, int n) {
        if (!isYard(y) || !isBeggar(beggar) || !isWithin(n, 1, MOST_HOURS)) {
            return NONE;
        }
        tryUnlicensed(y, n);
        return worthTo(y, beggar, n);
    }

    public int sold(int y, int n, int what) {
        if (!isYard(y) || !isWithin(n, 1, MOST_HOURS) || !isWithin(what, 0, 1)) {
            return NONE;
        }
        tryUnlicensed(y, n);
        int first = 0;
        for (int b = 0; b < BEGGARS; b++) {
            worths[b] = worthTo(y, b, n);
            if (worths[b] > worths[first]) {
                first = b;
            }
        }
        if (what == 0) {
            return first;
        }
        int next = -BEYOND;
        for (int b = 0; b < BEGGARS; b++) {
            if (b != first) {
                next = Math.max(next, worths[b]);
            }
        }
        return next;
    }

    /** Puts the purses behind n hours into the row, as if nobody had the yard. */
    private void tryUnlicensed(int y, int n) {
        trial.takeAll(hill);
        if (isYard(y)) {
            trial.licences[y] = NOBODY;
        }
        trial.passDrawn(text, n);
        System.arraycopy(trial.purses, 0, without, 0, BEGGARS);
    }

    private int worthTo(int y, int beggar, int n) {
        if (!isYard(y) || !isBeggar(beggar)) {
            return NONE;
        }
        trial.takeMoving(hill);
        trial.licences[y] = beggar;
        trial.passDrawn(text, n);
        return trial.purses[beggar] - without[beggar];
    }

    public int shook(int p, int n, int what) {
        if (!isWithin(n, 1, 8) || !isWithin(what, NONE, 1) || tape.size < n) {
            return NONE;
        }
        // The bytes stay readable behind this: what was fed is overwritten only by later bytes.
        tape.size = 0;
        if (!hill.porters.climbs(p)) {
            return NO_PORTER;
        }
        int many = 0;
        int first = 0;
        trial.takeAll(hill);
        trial.needsDust = text.lossSeesDust;
        for (int i = 0; i < 100; i++) {
            if (wouldShake(p, n, i / 10, i % 10)) {
                first = many == 0 ? i : first;
                many++;
            }
        }
        if (what == NONE) {
            return many;
        }
        if (many == 0) {
            return NOT_THERE;
        }
        return what == 0 ? first / 10 : first % 10;
    }

    /** Whether the porter would lose just what the tape's first n bytes tell, with such a limp and sneeze. */
    private boolean wouldShake(int p, int n, int limp, int sneeze) {
        if (!isPorter(p)) {
            return false;
        }
        trial.takeMoving(hill);
        trial.porters.limps[p] = limp;
        trial.porters.sneezes[p] = sneeze;
        for (int h = 0; h < n; h++) {
            int before = trial.sumLed(p, NONE);
            trial.passDrawn(text, 1);
            if (trial.sumLed(p, NONE) - before != tape.byteAt(h)) {
                return false;
            }
        }
        return true;
    }

    public int led(int p, int y) {
        if (p != NONE && !isPorter(p) || y != NONE && !isYard(y)) {
            return NOT_THERE;
        }
        return hill.sumLed(p, y);
    }

    public int share(int p, int y, int what) {
        if (!isPorter(p) || !isYard(y) || !isWithin(what, 0, 1)) {
            return NONE;
        }
        int all = hill.sumLed(NONE, y);
        return all == 0 ? NOT_THERE : reduced(hill.sumLed(p, y), all, what);
    }

    public int odds(int n, int gold, int what) {
        if (!isWithin(n, 1, 3) || !isWithin(gold, 0, MOST_DUST) || !isWithin(what, 0, 1)) {
            return NONE;
        }
        int all = n == 1 ? 10 : n == 2 ? 100 : 1000;
        int hits = 0;
        trial.takeAll(hill);
        trial.needsDust = text.lossSeesDust;
        for (int i = 0; i < all; i++) {
            trial.takeMoving(hill);
            int draws = i;
            for (int h = 0; h < n; h++) {
                trial.pass(text, draws % 10);
                draws /= 10;
            }
            if (trial.gold >= gold) {
                hits++;
            }
        }
        return reduced(hits, all, what);
    }

    public boolean seed(int x) {
        if (!isWithin(x, 0, 65535)) {
            return false;
        }
        hill.x = x;
        return true;
    }

    public int keep() {
        keptHill.takeAll(hill);
        keptTape.take(tape);
        isKept = true;
        return hill.clock;
    }

    public boolean undo() {
        if (!isKept) {
            return false;
        }
        hill.takeAll(keptHill);
        tape.take(keptTape);
        return true;
    }

    public int check(int n) {
        if (!isWithin(n, 0, YARDS) || tape.size < 4 * n) {
            return NOT_THERE;
        }
        tape.size = 0;
        for (int y = 0; y < n; y++) {
            if (tape.numberAt(y) != hill.dust[y]) {
                return y;
            }
        }
        return NONE;
    }

    public int count(int what) {
        if (isWithin(what, 100, 100 + RAINY_HOURS - 1)) {
            return hill.rains[what - 100];
        }
        if (isBeggar(what - 20)) {
            return hill.skills[what - 20];
        }
        if (isBeggar(what - 10)) {
            return hill.purses[what - 10];
        }
        switch (what) {
            case 0: return hill.clock;
            case 1: return text.clauses;
            case 2: return tape.size;
            case 3: return hill.x;
            case 4: return hill.gold;
            case 5: return hill.river;
            case 6: return hill.gone;
            case 7: return hill.sumDust();
            case 8: return hill.porters.told;
            default: return NONE;
        }
    }

    private static boolean isWithin(int n, int least, int most) {
        return n >= least && n <= most;
    }

    private static boolean isYard(int y) {
        return y >= 0 && y < YARDS;
    }

    private static boolean isPorter(int p) {
        return p >= 0 && p < PORTERS;
    }

    private static boolean isBeggar(int b) {
        return b >= 0 && b < BEGGARS;
    }

    /** Above (0) or below (1) the line of a fraction without a common divisor. */
    private static int reduced(int above, int below, int what) {
        int a = below;
        int b = above;
        // Euclid's steps on 32 bits are fewer than 50.
        for (int i = 0; i < 100 && b != 0; i++) {
            int rest = a % b;
            a = b;
            b = rest;
        }
        if (a == 0) {
            return 0;
        }
        return what == 0 ? above / a : below / a;
    }

    /** Bytes that have been fed and not yet been used. */
    private static final class Tape {
        final int[] bytes = new int[MOST_TAPE];
        int size = 0;

        boolean hasRoom(int n) {
            return size + n <= MOST_TAPE;
        }

        void putNumber(int n) {
            for (int shift = 24; shift >= 0; shift -= 8) {
                if (size >= 0 && size < MOST_TAPE) {
                    bytes[size] = n >> shift & 255;
                    size++;
                }
            }
        }

        int byteAt(int i) {
            return i >= 0 && i < MOST_TAPE ? bytes[i] : NONE;
        }

        int numberAt(int i) {
            int n = 0;
            for (int k = 0; k < 4; k++) {
                n = n << 8 | byteAt(4 * i + k);
            }
            return n;
        }

        void take(Tape other) {
            System.arraycopy(other.bytes, 0, bytes, 0, MOST_TAPE);
            size = other.size;
        }
    }

    /** THE LAW as steps for a machine with a stack, so that reckoning makes no objects and needs no recursion. */
    private static final class Law {
        static final int MOST_CLAUSES = 14;
        static final int STACK = 40;
        static final int MOST_AMOUNT = 99;
        static final String LETTERS = "ydwcrtpgiznbq";
        static final int ALL_LETTERS = 13;
        static final int DUST = 1;
        static final int PORTER = 6;
        static final int BEGGAR = 11;
        /** The kinds of steps, beside the signs that join two numbers. */
        static final int NUMBER = 0;
        static final int LETTER = 1;
        static final int OR = 2;
        static final int AND = 3;
        static final int NOT = 4;

        final int[] kinds = new int[MOST_TEXT];
        final int[] operands = new int[MOST_TEXT];
        int steps = 0;
        final int[] letters = new int[MOST_CLAUSES];
        final int[] starts = new int[MOST_CLAUSES];
        final int[] middles = new int[MOST_CLAUSES];
        final int[] ends = new int[MOST_CLAUSES];
        int clauses = 0;
        /** Whether what porters lose may hang on dust. */
        boolean lossSeesDust = false;
        /** What each of LETTERS stands for now. */
        final int[] sees = new int[ALL_LETTERS];
        private final int[] stack = new int[STACK];

        void take(Law other) {
            System.arraycopy(other.kinds, 0, kinds, 0, MOST_TEXT);
            System.arraycopy(other.operands, 0, operands, 0, MOST_TEXT);
            System.arraycopy(other.letters, 0, letters, 0, MOST_CLAUSES);
            System.arraycopy(other.starts, 0, starts, 0, MOST_CLAUSES);
            System.arraycopy(other.middles, 0, middles, 0, MOST_CLAUSES);
            System.arraycopy(other.ends, 0, ends, 0, MOST_CLAUSES);
            steps = other.steps;
            clauses = other.clauses;
            lossSeesDust = other.lossSeesDust;
        }

        void clear() {
            steps = 0;
            clauses = 0;
            lossSeesDust = false;
        }

        /** Puts a step behind the others and tells its place. */
        int putStep(int kind, int operand) {
            if (steps < 0 || steps >= MOST_TEXT) {
                return NONE;
            }
            kinds[steps] = kind;
            operands[steps] = operand;
            steps++;
            return steps - 1;
        }

        /** OR and AND go on behind the last step that there is now, if what is before them settles it. */
        void leadToEnd(int step) {
            if (step >= 0 && step < MOST_TEXT) {
                operands[step] = steps - 1;
            }
        }

        /** Forgets porter and beggar, which only their own clauses see. */
        void forgetWho() {
            for (int i = PORTER; i < ALL_LETTERS; i++) {
                sees[i] = 0;
            }
        }

        boolean has(int letter) {
            for (int c = 0; c < clauses && c < MOST_CLAUSES; c++) {
                if (letters[c] == letter) {
                    return true;
                }
            }
            return false;
        }

        int amount(int letter) {
            for (int c = 0; c < clauses && c < MOST_CLAUSES; c++) {
                if (letters[c] == letter && reckon(middles[c], ends[c]) != 0) {
                    return Math.max(0, Math.min(MOST_AMOUNT, reckon(starts[c], middles[c])));
                }
            }
            return 0;
        }

        /** What the steps answer: an E its number, a C 1 or 0; 0 if it is refused. */
        private int reckon(int from, int to) {
            int top = 0;
            for (int at = from; at >= 0 && at < to && at < MOST_TEXT; at++) {
                int kind = kinds[at];
                int operand = operands[at];
                if (kind == NUMBER || kind == LETTER) {
                    if (top >= STACK || kind == LETTER && (operand < 0 || operand >= ALL_LETTERS)) {
                        return 0;
                    }
                    stack[top] = kind == NUMBER ? operand : sees[operand];
                    top++;
                    continue;
                }
                if (top < 1) {
                    return 0;
                }
                int last = stack[top - 1];
                if (kind == NOT) {
                    stack[top - 1] = 1 - last;
                } else if (kind == OR || kind == AND) {
                    boolean isSettled = last != 0 == (kind == OR);
                    if (isSettled && operand > at) {
                        at = operand;
                    } else {
                        top--;
                    }
                } else if (top < 2 || last == 0 && (kind == '/' || kind == '%')) {
                    return 0;
                } else {
                    int n = stack[top - 2];
                    switch (kind) {
                        case '+': n += last; break;
                        case '-': n -= last; break;
                        case '*': n *= last; break;
                        case '/': n /= last; break;
                        case '%': n %= last; break;
                        case '<': n = n < last ? 1 : 0; break;
                        case '>': n = n > last ? 1 : 0; break;
                        default: n = n == last ? 1 : 0; break;
                    }
                    top--;
                    stack[top - 1] = n;
                }
            }
            return top == 1 ? stack[0] : 0;
        }
    }

    /** Reads THE LAW's text from the tape; each reading method tells whether it found no fault. */
    private static final class Reader {
        static final int MOST_OPEN = 6;
        static final int MOST_DIGITS = 5;
        static final int MISPLACED = 1;
        static final int SIXTH_DIGIT = 2;
        static final int FIFTEENTH_CLAUSE = 4;
        static final int SEVENTH_OPEN = 5;
        static final String CLAUSE_LETTERS = "lmks";

        final Law found = new Law();
        private final Tape tape;
        private int size = 0;
        private int at = 0;
        private int fault = 0;

        Reader(Tape tape) {
            this.tape = tape;
        }

        /** How many clauses the first n bytes have, or their fault. */
        int readText(int n) {
            size = n;
            at = 0;
            fault = 0;
            found.clear();
            boolean goesOn = true;
            // A clause has four bytes at least, so that the text's end is always met.
            for (int i = 0; i < MOST_TEXT && goesOn; i++) {
                if (!readClause()) {
                    return fault;
                }
                goesOn = next() == ';';
                if (goesOn) {
                    at++;
                }
            }
            if (at < size) {
                fail(MISPLACED);
                return fault;
            }
            return found.clauses;
        }

        private int next() {
            return at >= 0 && at < size && at < MOST_TAPE ? tape.bytes[at] : NONE;
        }

        private boolean fail(int number) {
            fault = -1000 * number - at;
            return false;
        }

        private boolean close(int sign) {
            if (next() != sign) {
                return fail(MISPLACED);
            }
            at++;
            return true;
        }

        /** Passes one of ( [ ! if no more than six are open with it. */
        private boolean open(int sign, int opened) {
            if (next() != sign) {
                return fail(MISPLACED);
            }
            if (opened >= MOST_OPEN) {
                return fail(SEVENTH_OPEN);
            }
            at++;
            return true;
        }

        private boolean readClause() {
            int letter = next();
            if (letter < 0 || CLAUSE_LETTERS.indexOf((char) letter) < 0) {
                return fail(MISPLACED);
            }
            int c = found.clauses;
            if (c < 0 || c >= Law.MOST_CLAUSES) {
                return fail(FIFTEENTH_CLAUSE);
            }
            at++;
            found.letters[c] = letter;
            found.starts[c] = found.steps;
            if (!readSum(0)) {
                return false;
            }
            found.middles[c] = found.steps;
            if (!open('(', 0) || !readParts(1) || !close(')')) {
                return false;
            }
            found.ends[c] = found.steps;
            found.clauses = c + 1;
            found.lossSeesDust |= letter == 'l' && seesDust(c);
            return true;
        }

        private boolean seesDust(int clause) {
            for (int i = found.starts[clause]; i >= 0 && i < found.steps && i < MOST_TEXT; i++) {
                if (found.kinds[i] == Law.LETTER && found.operands[i] == Law.DUST) {
                    return true;
                }
            }
            return false;
        }

        private boolean readParts(int opened) {
            if (!readPieces(opened)) {
                return false;
            }
            for (int i = 0; i < MOST_TEXT && next() == '|'; i++) {
                at++;
                int step = found.putStep(Law.OR, 0);
                if (!readPieces(opened)) {
                    return false;
                }
                found.leadToEnd(step);
            }
            return true;
        }

        private boolean readPieces(int opened) {
            if (!readPiece(opened)) {
                return false;
            }
            for (int i = 0; i < MOST_TEXT && next() == '&'; i++) {
                at++;
                int step = found.putStep(Law.AND, 0);
                if (!readPiece(opened)) {
                    return false;
                }
                found.leadToEnd(step);
            }
            return true;
        }

        private boolean readPiece(int opened) {
            int sign = next();
            if (sign == '!') {
                if (!open('!', opened) || !readPiece(opened + 1)) {
                    return false;
                }
                found.putStep(Law.NOT, 0);
                return true;
            }
            if (sign == '(') {
                return open('(', opened) && readParts(opened + 1) && close(')');
            }
            if (!readSum(opened)) {
                return false;
            }
            int how = next();
            if (how != '<' && how != '>' && how != '=') {
                return fail(MISPLACED);
            }
            at++;
            if (!readSum(opened)) {
                return false;
            }
            found.putStep(how, 0);
            return true;
        }

        private boolean readSum(int opened) {
            if (!readTerm(opened)) {
                return false;
            }
            for (int i = 0; i < MOST_TEXT && (next() == '+' || next() == '-'); i++) {
                int sign = next();
                at++;
                if (!readTerm(opened)) {
                    return false;
                }
                found.putStep(sign, 0);
            }
            return true;
        }

        private boolean readTerm(int opened) {
            if (!readFactor(opened)) {
                return false;
            }
            for (int i = 0; i < MOST_TEXT && (next() == '*' || next() == '/' || next() == '%'); i++) {
                int sign = next();
                at++;
                if (!readFactor(opened)) {
                    return false;
                }
                found.putStep(sign, 0);
            }
            return true;
        }

        private boolean readFactor(int opened) {
            int sign = next();
            if (sign == '[') {
                return open('[', opened) && readSum(opened + 1) && close(']');
            }
            if (isDigit(sign)) {
                return readNumber();
            }
            int letter = sign < 0 ? NONE : Law.LETTERS.indexOf((char) sign);
            if (letter < 0) {
                return fail(MISPLACED);
            }
            at++;
            found.putStep(Law.LETTER, letter);
            return true;
        }

        private boolean readNumber() {
            int n = 0;
            for (int i = 0; i < MOST_DIGITS && isDigit(next()); i++) {
                n = 10 * n + next() - '0';
                at++;
            }
            if (isDigit(next())) {
                return fail(SIXTH_DIGIT);
            }
            found.putStep(Law.NUMBER, n);
            return true;
        }

        private static boolean isDigit(int sign) {
            return sign >= '0' && sign <= '9';
        }
    }

    /** Who carries what where, and how. */
    private static final class Porters {
        int told = 0;
        final int[] places = new int[PORTERS];
        final int[] bowl = new int[PORTERS];
        final int[] limps = new int[PORTERS];
        final int[] sneezes = new int[PORTERS];

        void takeAll(Porters other) {
            told = other.told;
            System.arraycopy(other.limps, 0, limps, 0, PORTERS);
            System.arraycopy(other.sneezes, 0, sneezes, 0, PORTERS);
        }

        void takeMoving(Porters other) {
            System.arraycopy(other.places, 0, places, 0, PORTERS);
            System.arraycopy(other.bowl, 0, bowl, 0, PORTERS);
        }

        boolean isTold(int p) {
            return isPorter(p) && (told >> p & 1) != 0;
        }

        /** Whether there is such a porter that has not arrived. */
        boolean climbs(int p) {
            return isPorter(p) && (told >> p & 1) != 0 && places[p] < YARDS;
        }

        boolean allClimb(int porters) {
            for (int p = 0; p < PORTERS; p++) {
                if ((porters >> p & 1) != 0 && !climbs(p)) {
                    return false;
                }
            }
            return true;
        }

        int countAt(int y) {
            int n = 0;
            for (int p = 0; p < PORTERS; p++) {
                if ((told >> p & 1) != 0 && places[p] == y) {
                    n++;
                }
            }
            return n;
        }
    }

    /** All that is kept and undone but the tape; what an hour does. */
    private static final class Hill {
        final int[] dust = new int[YARDS];
        final int[] wind = new int[YARDS];
        final int[] carpets = new int[YARDS];
        final int[] licences = new int[YARDS];
        final int[] skills = new int[BEGGARS];
        final int[] purses = new int[BEGGARS];
        final Porters porters = new Porters();
        final int[] rains = new int[RAINY_HOURS];
        final int[] leds = new int[PORTERS * YARDS];
        int clock = 0;
        int x = 1;
        int gold = 0;
        int river = 0;
        int gone = 0;
        /** False on a trial that asks only for what porters do, if that does not hang on dust. */
        boolean needsDust = true;
        /** Who would sieve where nobody has a licence, and the yards (bits) where it would have got something. */
        int prober = NOBODY;
        int probed = 0;
        private final int[] moved = new int[YARDS];

        Hill() {
            Arrays.fill(licences, NOBODY);
        }

        void takeAll(Hill other) {
            takeMoving(other);
            porters.takeAll(other.porters);
            System.arraycopy(other.wind, 0, wind, 0, YARDS);
            System.arraycopy(other.carpets, 0, carpets, 0, YARDS);
            System.arraycopy(other.licences, 0, licences, 0, YARDS);
            System.arraycopy(other.skills, 0, skills, 0, BEGGARS);
            System.arraycopy(other.rains, 0, rains, 0, RAINY_HOURS);
            System.arraycopy(other.leds, 0, leds, 0, PORTERS * YARDS);
            needsDust = true;
            prober = NOBODY;
        }

        /** Takes what hours change, but for what was led: a trial of many hills needs no more for each. */
        void takeMoving(Hill other) {
            porters.takeMoving(other.porters);
            System.arraycopy(other.dust, 0, dust, 0, YARDS);
            System.arraycopy(other.purses, 0, purses, 0, BEGGARS);
            clock = other.clock;
            x = other.x;
            gold = other.gold;
            river = other.river;
            gone = other.gone;
        }

        int sumDust() {
            int sum = 0;
            for (int y = 0; y < YARDS; y++) {
                sum += dust[y];
            }
            return sum;
        }

        /** What was led to a porter (NONE: to all) at a yard (NONE: at all). */
        int sumLed(int p, int y) {
            int sum = 0;
            for (int i = p == NONE ? 0 : p; i >= 0 && i < PORTERS && (p == NONE || i == p); i++) {
                for (int k = y == NONE ? 0 : y; k >= 0 && k < YARDS && (y == NONE || k == y); k++) {
                    sum += leds[i * YARDS + k];
                }
            }
            return sum;
        }

        /** Hours by draws: how much is lost in them. */
        int passDrawn(Law law, int n) {
            int lost = 0;
            for (int h = 0; h < n; h++) {
                lost += pass(law, nextDraw());
            }
            return lost;
        }

        /** As passDrawn, but ends once so much is lost that it can't be the least any more. */
        int passUnder(Law law, int n, int limit) {
            int lost = 0;
            for (int h = 0; h < n && lost < limit; h++) {
                lost += pass(law, nextDraw());
            }
            return lost;
        }

        int nextDraw() {
            x = 25173 * x + 13849 & 65535;
            return x % 10;
        }

        int pass(Law law, int draw) {
            int lost = spill(law, draw);
            climb();
            if (needsDust) {
                law.forgetWho();
                blow(law);
                wash(law);
                sieve(law);
            }
            clock++;
            return lost;
        }

        private int spill(Law law, int draw) {
            int lost = 0;
            for (int p = 0; p < PORTERS; p++) {
                int n = loss(law, p, draw);
                int y = porters.places[p];
                if (n > 0 && isYard(y)) {
                    porters.bowl[p] -= n;
                    leds[p * YARDS + y] += n;
                    lost += n;
                    heap(y, n);
                }
            }
            return lost;
        }

        /** What a porter would lose now by such a draw. */
        int loss(Law law, int p, int draw) {
            if (!isPorter(p) || !porters.climbs(p) || porters.bowl[p] == 0) {
                return 0;
            }
            int y = porters.places[p];
            law.forgetWho();
            show(law, y);
            law.sees[Law.PORTER] = p;
            law.sees[Law.PORTER + 1] = porters.bowl[p];
            law.sees[Law.PORTER + 2] = porters.limps[p];
            law.sees[Law.PORTER + 3] = draw == porters.sneezes[p] ? 1 : 0;
            law.sees[Law.PORTER + 4] = porters.countAt(y);
            return Math.min(porters.bowl[p], law.amount('l'));
        }

        /** Lets the law see a yard and the hour. */
        private void show(Law law, int y) {
            if (!isYard(y)) {
                return;
            }
            law.sees[0] = y;
            law.sees[Law.DUST] = dust[y];
            law.sees[2] = wind[y];
            law.sees[3] = carpets[y];
            law.sees[4] = clock >= 0 && clock < RAINY_HOURS ? rains[clock] : 0;
            law.sees[5] = clock;
        }

        /** Puts grains on a yard, or on none; those that find no room are gone. */
        private void heap(int y, int n) {
            int room = isYard(y) ? MOST_DUST - dust[y] : 0;
            int put = Math.min(n, room);
            gone += n - put;
            if (isYard(y)) {
                dust[y] += put;
            }
        }

        private void climb() {
            for (int p = 0; p < PORTERS; p++) {
                if (porters.climbs(p) && clock % 10 >= porters.limps[p]) {
                    porters.places[p]++;
                    if (porters.places[p] == YARDS) {
                        gold += porters.bowl[p];
                        porters.bowl[p] = 0;
                    }
                }
            }
        }

        private void blow(Law law) {
            if (!law.has('m')) {
                return;
            }
            for (int y = 0; y < YARDS; y++) {
                moved[y] = wind[y] == 0 ? 0 : taken(law, 'm', y);
            }
            // All leave ahead of any that come: a full yard has room for as much as it gives away.
            for (int y = 0; y < YARDS; y++) {
                dust[y] -= moved[y];
            }
            for (int y = 0; y < YARDS; y++) {
                if (moved[y] > 0) {
                    heap(wind[y] > 0 ? y + 1 : y - 1, moved[y]);
                }
            }
        }

        private void wash(Law law) {
            if (!law.has('k')) {
                return;
            }
            for (int y = 0; y < YARDS; y++) {
                int n = taken(law, 'k', y);
                dust[y] -= n;
                river += n;
            }
        }

        private void sieve(Law law) {
            if (!law.has('s')) {
                return;
            }
            for (int y = 0; y < YARDS; y++) {
                int b = licences[y] == NOBODY ? prober : licences[y];
                if (isBeggar(b)) {
                    law.sees[Law.BEGGAR] = b;
                    law.sees[Law.BEGGAR + 1] = skills[b];
                    int n = taken(law, 's', y);
                    if (licences[y] == b) {
                        dust[y] -= n;
                        purses[b] += n;
                    } else if (n > 0) {
                        probed |= 1 << y;
                    }
                }
            }
        }

        /** How many grains a clause takes from a yard: as much as is there. */
        private int taken(Law law, int letter, int y) {
            if (!isYard(y) || dust[y] == 0) {
                return 0;
            }
            show(law, y);
            return Math.min(dust[y], law.amount(letter));
        }
    }

    /**
     * Which yards without a licence a beggar best sieves. Fewer yards are weighed first, and lesser rows, so that only
     * what is truly more replaces the best. A yard where nothing would be got beside some others changes nothing, and
     * a row with it is no better than the row without it: such rows are left out.
     */
    private static final class Sieving {
        int bestSize = 0;
        int bestGain = 0;
        private final int[] best = new int[MOST_SIEVED];
        private final int[] row = new int[MOST_SIEVED];
        /** Yards (bits) where something would be got beside one yard, beside two. */
        private final int[] besideOne = new int[YARDS];
        private final int[] besideTwo = new int[YARDS * YARDS];
        private final Hill hill;
        private final Hill trial;
        private final Law law;
        private int beggar = 0;
        private int hours = 0;
        private int price = 0;

        Sieving(Hill hill, Hill trial, Law law) {
            this.hill = hill;
            this.trial = trial;
            this.law = law;
        }

        void begin(int who, int n, int cost) {
            beggar = who;
            hours = n;
            price = cost;
            trial.takeAll(hill);
            trial.prober = who;
            bestSize = 0;
            bestGain = -BEYOND;
        }

        int bestAt(int place) {
            return place >= 0 && place < bestSize && place < MOST_SIEVED ? best[place] : NOT_THERE;
        }

        void weighOnes() {
            int besideNone = weigh(0);
            for (int a = 0; a < YARDS; a++) {
                row[0] = a;
                besideOne[a] = hasBit(besideNone, a) ? weigh(1) : besideNone;
            }
        }

        void weighPairs() {
            for (int a = 0; a < YARDS; a++) {
                for (int b = a + 1; b < YARDS; b++) {
                    row[0] = a;
                    row[1] = b;
                    int beside = besideOne[a];
                    if (hasBit(beside, b)) {
                        beside = hasBit(besideOne[b], a) ? weigh(2) : besideOne[b];
                    }
                    besideTwo[a * YARDS + b] = beside;
                }
            }
        }

        void weighTriples() {
            // Nothing is weighed behind these, so that nobody needs to know what would be got beside them.
            trial.prober = NOBODY;
            for (int a = 0; a < YARDS; a++) {
                for (int b = a + 1; b < YARDS; b++) {
                    for (int c = b + 1; c < YARDS; c++) {
                        row[0] = a;
                        row[1] = b;
                        row[2] = c;
                        boolean allGet = hasBit(besideTwo[a * YARDS + b], c) && hasBit(besideTwo[a * YARDS + c], b)
                            && hasBit(besideTwo[b * YARDS + c], a);
                        if (allGet) {
                            weigh(3);
                        }
                    }
                }
            }
        }

        private static boolean hasBit(int bits, int i) {
            return (bits >> i & 1) != 0;
        }

        /** Tries the row's first yards; answers where something would be got beside them. */
        private int weigh(int size) {
            trial.takeMoving(hill);
            trial.probed = 0;
            grant(size, beggar);
            for (int h = 0; h < hours; h++) {
                trial.pass(law, trial.nextDraw());
            }
            grant(size, NOBODY);
            int gain = isBeggar(beggar) ? trial.purses[beggar] - hill.purses[beggar] - size * price : 0;
            if (gain > bestGain) {
                bestGain = gain;
                bestSize = size;
                System.arraycopy(row, 0, best, 0, MOST_SIEVED);
            }
            return trial.probed;
        }

        private void grant(int size, int who) {
            for (int i = 0; i < size && i < MOST_SIEVED; i++) {
                if (isYard(row[i])) {
                    trial.licences[row[i]] = who;
                }
            }
        }
    }

    /** Rows of whose bowl each of some porters gets, from the least row on. */
    private static final class Swap {
        static final int MOST_ROWS = 720;
        private final int[] who = new int[MOST_SWAPPED];
        private final int[] row = new int[MOST_SWAPPED];
        private final int[] best = new int[MOST_SWAPPED];
        private int size = 0;

        void begin(int porters) {
            size = 0;
            for (int p = 0; p < PORTERS && size < MOST_SWAPPED; p++) {
                if ((porters >> p & 1) != 0) {
                    who[size] = p;
                    row[size] = p;
                    size++;
                }
            }
        }

        /** Makes the row the next greater one; false if it is the greatest. */
        boolean goOn() {
            int i = size - 2;
            while (i >= 0 && row[i] > row[i + 1]) {
                i--;
            }
            if (i < 0) {
                return false;
            }
            int k = size - 1;
            while (k > i + 1 && row[k] < row[i]) {
                k--;
            }
            exchange(i, k);
            int low = i + 1;
            int high = size - 1;
            while (low < high) {
                exchange(low, high);
                low++;
                high--;
            }
            return true;
        }

        private void exchange(int i, int k) {
            if (i >= 0 && i < MOST_SWAPPED && k >= 0 && k < MOST_SWAPPED) {
                int p = row[i];
                row[i] = row[k];
                row[k] = p;
            }
        }

        void holdBest() {
            System.arraycopy(row, 0, best, 0, MOST_SWAPPED);
        }

        int whoseFor(int p) {
            for (int i = 0; i < size && i < MOST_SWAPPED; i++) {
                if (who[i] == p) {
                    return best[i];
                }
            }
            return NONE;
        }

        void handOut(Porters from, Porters to) {
            handOutBy(row, from, to);
        }

        void handOutBest(Porters from, Porters to) {
            handOutBy(best, from, to);
        }

        private void handOutBy(int[] order, Porters from, Porters to) {
            for (int i = 0; i < size && i < MOST_SWAPPED; i++) {
                if (isPorter(who[i]) && isPorter(order[i])) {
                    to.bowl[who[i]] = from.bowl[order[i]];
                }
            }
        }
    }
}
