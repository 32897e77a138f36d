import java.util.ArrayDeque;
import java.util.ArrayList;
import java.util.Deque;
import java.util.List;
import java.util.Map;

/**
 * THE LAW read and reckoned another way than DustMint does it, to check it against: faults by one machine that goes
 * through the text sign by sign, amounts by walking the text anew each time.
 */
final class SlowLaw {
    static final class Refused extends RuntimeException {
        private static final long serialVersionUID = 1L;
    }

    private enum Mode { LETTER, OPERAND, PIECE, BEHIND_FACTOR, IN_NUMBER, BEHIND_PIECE, BEHIND_CLAUSE }

    /** The number of clauses, or the fault. */
    static int judge(String text) {
        Deque<Character> open = new ArrayDeque<>();
        Deque<Boolean> rightSides = new ArrayDeque<>();
        Mode mode = Mode.LETTER;
        boolean inCondition = false;
        boolean rightSide = false;
        int digits = 0;
        int clauses = 0;
        for (int i = 0; i <= text.length(); i++) {
            char c = i < text.length() ? text.charAt(i) : (char) 0;
            boolean end = i == text.length();
            int misplaced = -1000 - i;
            if (end) {
                return mode == Mode.BEHIND_CLAUSE ? clauses : misplaced;
            }
            switch (mode) {
                case LETTER:
                    if ("lmks".indexOf(c) < 0) return misplaced;
                    if (clauses == 14) return -4000 - i;
                    inCondition = false;
                    mode = Mode.OPERAND;
                    break;
                case PIECE:
                case OPERAND:
                    if (c >= '0' && c <= '9') {
                        mode = Mode.IN_NUMBER;
                        digits = 1;
                    } else if ("ydwcrtpgiznbq".indexOf(c) >= 0) {
                        mode = Mode.BEHIND_FACTOR;
                    } else if (c == '[' || mode == Mode.PIECE && (c == '(' || c == '!')) {
                        if (open.size() == 6) return -5000 - i;
                        open.push(c);
                        if (c == '[') {
                            rightSides.push(rightSide);
                            mode = Mode.OPERAND;
                        } else {
                            mode = Mode.PIECE;
                        }
                    } else {
                        return misplaced;
                    }
                    break;
                case IN_NUMBER:
                case BEHIND_FACTOR:
                    if (mode == Mode.IN_NUMBER && c >= '0' && c <= '9') {
                        digits++;
                        if (digits == 6) return -2000 - i;
                        break;
                    }
                    boolean inBracket = !open.isEmpty() && open.peek() == '[';
                    if ("+-*/%".indexOf(c) >= 0) {
                        mode = Mode.OPERAND;
                    } else if (inBracket) {
                        if (c != ']') return misplaced;
                        open.pop();
                        rightSide = rightSides.pop();
                        mode = Mode.BEHIND_FACTOR;
                    } else if (!inCondition) {
                        if (c != '(') return misplaced;
                        open.push(c);
                        inCondition = true;
                        rightSide = false;
                        mode = Mode.PIECE;
                    } else if (!rightSide) {
                        if ("<>=".indexOf(c) < 0) return misplaced;
                        rightSide = true;
                        mode = Mode.OPERAND;
                    } else {
                        // The piece ends here, and so does each ! ahead of it.
                        while (open.peek() == '!') open.pop();
                        rightSide = false;
                        mode = Mode.BEHIND_PIECE;
                        i--;
                    }
                    break;
                case BEHIND_PIECE:
                    if (c == '&' || c == '|') {
                        mode = Mode.PIECE;
                    } else if (c == ')') {
                        open.pop();
                        while (!open.isEmpty() && open.peek() == '!') open.pop();
                        if (open.isEmpty()) {
                            clauses++;
                            mode = Mode.BEHIND_CLAUSE;
                        }
                    } else {
                        return misplaced;
                    }
                    break;
                default:
                    if (c != ';') return misplaced;
                    mode = Mode.LETTER;
                    break;
            }
        }
        throw new IllegalStateException();
    }

    /** A text without fault: what the first clause of the letter that holds answers. */
    static int amount(String text, char letter, Map<Character, Integer> seen) {
        if (text.isEmpty()) return 0;
        for (String clause : text.split(";")) {
            if (clause.charAt(0) != letter) continue;
            int paren = clause.indexOf('(');
            boolean holds;
            try {
                holds = holds(clause.substring(paren + 1, clause.length() - 1), seen);
            } catch (Refused e) {
                holds = false;
            }
            if (!holds) continue;
            try {
                return Math.max(0, Math.min(99, number(clause.substring(1, paren), seen)));
            } catch (Refused e) {
                return 0;
            }
        }
        return 0;
    }

    /** The parts of a text between signs that stand in no bracket, and those signs. */
    private static List<String> split(String text, String signs, List<Character> found) {
        List<String> parts = new ArrayList<>();
        int depth = 0;
        int from = 0;
        for (int i = 0; i < text.length(); i++) {
            char c = text.charAt(i);
            if (c == '(' || c == '[') depth++;
            if (c == ')' || c == ']') depth--;
            if (depth == 0 && signs.indexOf(c) >= 0) {
                parts.add(text.substring(from, i));
                found.add(c);
                from = i + 1;
            }
        }
        parts.add(text.substring(from));
        return parts;
    }

    private static boolean holds(String c, Map<Character, Integer> seen) {
        for (String part : split(c, "|", new ArrayList<>())) {
            boolean all = true;
            for (String piece : split(part, "&", new ArrayList<>())) {
                if (!pieceHolds(piece, seen)) {
                    all = false;
                    break;
                }
            }
            if (all) return true;
        }
        return false;
    }

    private static boolean pieceHolds(String piece, Map<Character, Integer> seen) {
        if (piece.charAt(0) == '!') return !pieceHolds(piece.substring(1), seen);
        if (piece.charAt(0) == '(') return holds(piece.substring(1, piece.length() - 1), seen);
        List<Character> how = new ArrayList<>();
        List<String> sides = split(piece, "<>=", how);
        int a = number(sides.get(0), seen);
        int b = number(sides.get(1), seen);
        return how.get(0) == '<' ? a < b : how.get(0) == '>' ? a > b : a == b;
    }

    private static int number(String e, Map<Character, Integer> seen) {
        List<Character> signs = new ArrayList<>();
        List<String> terms = split(e, "+-", signs);
        int sum = term(terms.get(0), seen);
        for (int i = 0; i < signs.size(); i++) {
            int t = term(terms.get(i + 1), seen);
            sum = signs.get(i) == '+' ? sum + t : sum - t;
        }
        return sum;
    }

    private static int term(String term, Map<Character, Integer> seen) {
        List<Character> signs = new ArrayList<>();
        List<String> factors = split(term, "*/%", signs);
        int product = factor(factors.get(0), seen);
        for (int i = 0; i < signs.size(); i++) {
            int f = factor(factors.get(i + 1), seen);
            if (signs.get(i) != '*' && f == 0) throw new Refused();
            product = signs.get(i) == '*' ? product * f : signs.get(i) == '/' ? product / f : product % f;
        }
        return product;
    }

    private static int factor(String factor, Map<Character, Integer> seen) {
        char c = factor.charAt(0);
        if (c == '[') return number(factor.substring(1, factor.length() - 1), seen);
        if (c >= '0' && c <= '9') return Integer.parseInt(factor);
        return seen.getOrDefault(c, 0);
    }

    private SlowLaw() {
    }
}
