import java.util.ArrayList;
import java.util.Arrays;
import java.util.HashMap;
import java.util.List;
import java.util.Map;

/** The whole document once more, in its plainest form and with no thought of speed, to check DustMint against. */
public final class SlowMint {
    private static final class Porter {
        int yard;
        int bowl;
        int limp;
        int sneeze;

        Porter copy() {
            Porter p = new Porter();
            p.yard = yard;
            p.bowl = bowl;
            p.limp = limp;
            p.sneeze = sneeze;
            return p;
        }
    }

    private static final class State {
        int[] dust = new int[20];
        int[] wind = new int[20];
        boolean[] carpet = new boolean[20];
        Integer[] licence = new Integer[20];
        int[] skill = new int[6];
        int[] purse = new int[6];
        Porter[] porters = new Porter[9];
        Map<Integer, Integer> rain = new HashMap<>();
        Map<String, Integer> led = new HashMap<>();
        List<Integer> tape = new ArrayList<>();
        int hour;
        int x = 1;
        int gold;
        int river;
        int gone;

        State copy() {
            State s = new State();
            s.dust = dust.clone();
            s.wind = wind.clone();
            s.carpet = carpet.clone();
            s.licence = licence.clone();
            s.skill = skill.clone();
            s.purse = purse.clone();
            for (int p = 0; p < 9; p++) s.porters[p] = porters[p] == null ? null : porters[p].copy();
            s.rain = new HashMap<>(rain);
            s.led = new HashMap<>(led);
            s.tape = new ArrayList<>(tape);
            s.hour = hour;
            s.x = x;
            s.gold = gold;
            s.river = river;
            s.gone = gone;
            return s;
        }
    }

    private State now = new State();
    private State kept;
    private String text = "";

    private static boolean in(int n, int a, int b) {
        return a <= n && n <= b;
    }

    public boolean yard(int y, int dust, int wind, boolean carpet) {
        if (!in(y, 0, 19) || !in(dust, 0, 99999) || !in(wind, -3, 3)) return false;
        now.dust[y] = dust;
        now.wind[y] = wind;
        now.carpet[y] = carpet;
        return true;
    }

    public boolean rain(int hour, int n) {
        if (!in(hour, 0, 99) || !in(n, 0, 9)) return false;
        now.rain.put(hour, n);
        return true;
    }

    public boolean porter(int p, int yard, int bowl, int limp, int sneeze) {
        if (!in(p, 0, 8) || !in(yard, 0, 19) || !in(bowl, 0, 9999) || !in(limp, 0, 9) || !in(sneeze, 0, 9)) return false;
        Porter q = new Porter();
        q.yard = yard;
        q.bowl = bowl;
        q.limp = limp;
        q.sneeze = sneeze;
        now.porters[p] = q;
        return true;
    }

    public boolean licence(int y, int beggar) {
        if (!in(y, 0, 19) || !in(beggar, -1, 5)) return false;
        now.licence[y] = beggar == -1 ? null : Integer.valueOf(beggar);
        return true;
    }

    public boolean skill(int beggar, int n) {
        if (!in(beggar, 0, 5) || !in(n, 0, 9)) return false;
        now.skill[beggar] = n;
        return true;
    }

    public int feed(int a, int b, int c, int d, int e) {
        if (now.tape.size() > 200) return -1;
        for (int n : new int[] {a, b, c, d, e}) {
            now.tape.add(n >>> 24);
            now.tape.add(n >>> 16 & 255);
            now.tape.add(n >>> 8 & 255);
            now.tape.add(n & 255);
        }
        return now.tape.size();
    }

    public int law(int n) {
        if (!in(n, 1, 200) || now.tape.size() < n) return -1;
        StringBuilder s = new StringBuilder();
        for (int i = 0; i < n; i++) s.append((char) (int) now.tape.get(i));
        now.tape.clear();
        int judged = SlowLaw.judge(s.toString());
        if (judged >= 0) text = s.toString();
        return judged;
    }

    private Map<Character, Integer> see(State s, int y) {
        Map<Character, Integer> m = new HashMap<>();
        m.put('y', y);
        m.put('d', s.dust[y]);
        m.put('w', s.wind[y]);
        m.put('c', s.carpet[y] ? 1 : 0);
        m.put('r', s.rain.getOrDefault(s.hour, 0));
        m.put('t', s.hour);
        return m;
    }

    private int loss(State s, int p, int draw) {
        Porter q = s.porters[p];
        if (q.yard == 20) return 0;
        Map<Character, Integer> m = see(s, q.yard);
        m.put('p', p);
        m.put('g', q.bowl);
        m.put('i', q.limp);
        m.put('z', draw == q.sneeze ? 1 : 0);
        int n = 0;
        for (Porter o : s.porters) if (o != null && o.yard == q.yard) n++;
        m.put('n', n);
        return Math.min(q.bowl, SlowLaw.amount(text, 'l', m));
    }

    private int pass(State s, int draw) {
        int lost = 0;
        for (int p = 0; p < 9; p++) {
            Porter q = s.porters[p];
            if (q == null || q.yard == 20) continue;
            int n = loss(s, p, draw);
            lost += n;
            q.bowl -= n;
            s.led.merge(p + " " + q.yard, n, Integer::sum);
            int sum = s.dust[q.yard] + n;
            s.dust[q.yard] = Math.min(99999, sum);
            s.gone += sum - s.dust[q.yard];
        }
        for (Porter q : s.porters) {
            if (q == null || q.yard == 20 || s.hour % 10 < q.limp) continue;
            q.yard++;
            if (q.yard == 20) {
                s.gold += q.bowl;
                q.bowl = 0;
            }
        }
        int[] change = new int[20];
        for (int y = 0; y < 20; y++) {
            if (s.wind[y] == 0) continue;
            int n = Math.min(s.dust[y], SlowLaw.amount(text, 'm', see(s, y)));
            change[y] -= n;
            int to = y + Integer.signum(s.wind[y]);
            if (to < 0 || to > 19) s.gone += n;
            else change[to] += n;
        }
        for (int y = 0; y < 20; y++) {
            int sum = s.dust[y] + change[y];
            s.dust[y] = Math.min(99999, sum);
            s.gone += sum - s.dust[y];
        }
        for (int y = 0; y < 20; y++) {
            int n = Math.min(s.dust[y], SlowLaw.amount(text, 'k', see(s, y)));
            s.dust[y] -= n;
            s.river += n;
        }
        for (int y = 0; y < 20; y++) {
            if (s.licence[y] == null) continue;
            Map<Character, Integer> m = see(s, y);
            m.put('b', s.licence[y]);
            m.put('q', s.skill[s.licence[y]]);
            int n = Math.min(s.dust[y], SlowLaw.amount(text, 's', m));
            s.dust[y] -= n;
            s.purse[s.licence[y]] += n;
        }
        s.hour++;
        return lost;
    }

    private int passAll(State s, int n) {
        int lost = 0;
        for (int h = 0; h < n; h++) {
            s.x = (int) ((25173L * s.x + 13849) % 65536);
            lost += pass(s, s.x % 10);
        }
        return lost;
    }

    public int hours(int n) {
        return in(n, 1, 40) ? passAll(now, n) : -1;
    }

    public int hour(int draw) {
        return in(draw, 0, 9) ? pass(now, draw) : -1;
    }

    public int yardIs(int y, int what) {
        if (!in(y, 0, 19) || !in(what, 0, 3)) return -1000;
        return new int[] {now.dust[y], now.wind[y], now.carpet[y] ? 1 : 0, now.licence[y] == null ? 6 : now.licence[y]}[what];
    }

    public int porterIs(int p, int what) {
        if (!in(p, 0, 8) || now.porters[p] == null || !in(what, 0, 4)) return -1;
        Porter q = now.porters[p];
        return new int[] {q.yard, q.bowl, q.limp, q.sneeze, loss(now, p, 5)}[what];
    }

    public int tried(int n, int what) {
        if (!in(n, 1, 40)) return -1;
        State s = now.copy();
        int lost = passAll(s, n);
        if (in(what, 0, 3)) return new int[] {s.gold, s.river, s.gone, lost}[what];
        if (in(what, 10, 18)) return s.porters[what - 10] == null ? -1 : s.porters[what - 10].bowl;
        if (in(what, 20, 28)) return s.porters[what - 20] == null ? -1 : s.porters[what - 20].yard;
        if (in(what, 30, 35)) return s.purse[what - 30];
        if (in(what, 40, 59)) return s.dust[what - 40];
        return -1;
    }

    private static void subsets(int from, int size, List<Integer> row, List<List<Integer>> all) {
        if (size == 0) {
            all.add(new ArrayList<>(row));
            return;
        }
        for (int y = from; y < 20; y++) {
            row.add(y);
            subsets(y + 1, size - 1, row, all);
            row.remove(row.size() - 1);
        }
    }

    public int sieved(int beggar, int n, int most, int price, int what) {
        if (!in(beggar, 0, 5) || !in(n, 1, 20) || !in(most, 1, 3) || !in(price, 0, 999)) return -1;
        List<List<Integer>> all = new ArrayList<>();
        for (int k = 0; k <= most; k++) subsets(0, k, new ArrayList<>(), all);
        int best = Integer.MIN_VALUE;
        List<Integer> bestRow = null;
        for (List<Integer> row : all) {
            State s = now.copy();
            boolean free = true;
            for (int y : row) {
                free &= now.licence[y] == null;
                s.licence[y] = beggar;
            }
            if (!free) continue;
            passAll(s, n);
            int more = s.purse[beggar] - now.purse[beggar] - row.size() * price;
            if (more > best) {
                best = more;
                bestRow = row;
            }
        }
        if (what == -1) return best;
        if (what == 3) return bestRow.size();
        return in(what, 0, bestRow.size() - 1) ? bestRow.get(what) : -2;
    }

    private static void orders(List<Integer> who, List<Integer> row, List<List<Integer>> all) {
        if (row.size() == who.size()) {
            all.add(new ArrayList<>(row));
            return;
        }
        for (int p : who) {
            if (row.contains(p)) continue;
            row.add(p);
            orders(who, row, all);
            row.remove(row.size() - 1);
        }
    }

    public int bowls(int porters, int n, int what) {
        if (!in(porters, 0, 511) || !in(Integer.bitCount(porters), 2, 6) || !in(n, 1, 20)) return -1;
        List<Integer> who = new ArrayList<>();
        for (int p = 0; p < 9; p++) if ((porters & 1 << p) != 0) who.add(p);
        if (what != -1 && what != 9 && !who.contains(what)) return -1;
        for (int p : who) if (now.porters[p] == null || now.porters[p].yard == 20) return -2;
        List<List<Integer>> all = new ArrayList<>();
        orders(who, new ArrayList<>(), all);
        int least = Integer.MAX_VALUE;
        List<Integer> best = null;
        for (List<Integer> row : all) {
            State s = now.copy();
            for (int i = 0; i < row.size(); i++) s.porters[who.get(i)].bowl = now.porters[row.get(i)].bowl;
            int lost = passAll(s, n);
            if (lost < least) {
                least = lost;
                best = row;
            }
        }
        if (what == 9) {
            State s = now.copy();
            for (int i = 0; i < who.size(); i++) now.porters[who.get(i)].bowl = s.porters[best.get(i)].bowl;
        }
        return what == -1 || what == 9 ? least : best.get(who.indexOf(what));
    }

    public int carpet(int n, int what) {
        if (!in(n, 1, 20) || !in(what, 0, 1)) return -1;
        int best = -2;
        int least = -2;
        for (int y = 19; y >= 0; y--) {
            if (now.carpet[y]) continue;
            State s = now.copy();
            s.carpet[y] = true;
            int lost = passAll(s, n);
            if (best == -2 || lost <= least) {
                best = y;
                least = lost;
            }
        }
        return what == 0 ? best : least;
    }

    public int gust(int y, int wind, int n, int what) {
        if (!in(y, 0, 19) || !in(wind, -3, 3) || !in(n, 1, 40) || !in(what, 0, 2)) return -1;
        State a = now.copy();
        State b = now.copy();
        b.wind[y] = wind;
        passAll(a, n);
        passAll(b, n);
        int sum = 0;
        int most = 0;
        for (int i = 0; i < 20; i++) {
            sum += Math.abs(a.dust[i] - b.dust[i]);
            most = Math.max(most, b.dust[i] - a.dust[i]);
        }
        if (what == 0) return sum;
        if (what == 2) return most;
        for (int i = 0; i < 20 && most > 0; i++) if (b.dust[i] - a.dust[i] == most) return i;
        return -2;
    }

    public int worth(int y, int beggar, int n) {
        if (!in(y, 0, 19) || !in(beggar, 0, 5) || !in(n, 1, 40)) return -1;
        State a = now.copy();
        a.licence[y] = null;
        State b = a.copy();
        b.licence[y] = beggar;
        passAll(a, n);
        passAll(b, n);
        return b.purse[beggar] - a.purse[beggar];
    }

    public int sold(int y, int n, int what) {
        if (!in(y, 0, 19) || !in(n, 1, 40) || !in(what, 0, 1)) return -1;
        int[] w = new int[6];
        for (int b = 0; b < 6; b++) w[b] = worth(y, b, n);
        int[] sorted = w.clone();
        Arrays.sort(sorted);
        if (what == 1) return sorted[4];
        for (int b = 0; ; b++) if (w[b] == sorted[5]) return b;
    }

    private int ledOf(State s, int p, int y) {
        int sum = 0;
        for (Map.Entry<String, Integer> e : s.led.entrySet()) {
            String[] key = e.getKey().split(" ");
            if ((p == -1 || key[0].equals("" + p)) && (y == -1 || key[1].equals("" + y))) sum += e.getValue();
        }
        return sum;
    }

    public int shook(int p, int n, int what) {
        if (!in(n, 1, 8) || !in(what, -1, 1) || now.tape.size() < n) return -1;
        List<Integer> told = new ArrayList<>(now.tape.subList(0, n));
        now.tape.clear();
        if (!in(p, 0, 8) || now.porters[p] == null || now.porters[p].yard == 20) return -3;
        List<int[]> twos = new ArrayList<>();
        for (int limp = 0; limp < 10; limp++) {
            for (int sneeze = 0; sneeze < 10; sneeze++) {
                State s = now.copy();
                s.porters[p].limp = limp;
                s.porters[p].sneeze = sneeze;
                List<Integer> lost = new ArrayList<>();
                for (int h = 0; h < n; h++) {
                    int before = ledOf(s, p, -1);
                    passAll(s, 1);
                    lost.add(ledOf(s, p, -1) - before);
                }
                if (lost.equals(told)) twos.add(new int[] {limp, sneeze});
            }
        }
        return what == -1 ? twos.size() : twos.isEmpty() ? -2 : twos.get(0)[what];
    }

    public int led(int p, int y) {
        return in(p, -1, 8) && in(y, -1, 19) ? ledOf(now, p, y) : -2;
    }

    private static int reduce(int above, int below, int what) {
        for (int d = below; ; d--) if (above % d == 0 && below % d == 0) return what == 0 ? above / d : below / d;
    }

    public int share(int p, int y, int what) {
        if (!in(p, 0, 8) || !in(y, 0, 19) || !in(what, 0, 1)) return -1;
        int all = ledOf(now, -1, y);
        return all == 0 ? -2 : reduce(ledOf(now, p, y), all, what);
    }

    private int hits(State s, int n, int gold) {
        if (n == 0) return s.gold >= gold ? 1 : 0;
        int sum = 0;
        for (int draw = 0; draw < 10; draw++) {
            State t = s.copy();
            pass(t, draw);
            sum += hits(t, n - 1, gold);
        }
        return sum;
    }

    public int odds(int n, int gold, int what) {
        if (!in(n, 1, 3) || !in(gold, 0, 99999) || !in(what, 0, 1)) return -1;
        return reduce(hits(now, n, gold), (int) Math.pow(10, n), what);
    }

    public boolean seed(int x) {
        if (!in(x, 0, 65535)) return false;
        now.x = x;
        return true;
    }

    public int keep() {
        kept = now.copy();
        return kept.hour;
    }

    public boolean undo() {
        if (kept == null) return false;
        now = kept.copy();
        return true;
    }

    public int check(int n) {
        if (!in(n, 0, 20) || now.tape.size() < 4 * n) return -2;
        List<Integer> tape = new ArrayList<>(now.tape);
        now.tape.clear();
        for (int i = 0; i < n; i++) {
            long number = 0;
            for (int k = 0; k < 4; k++) number = number * 256 + tape.get(4 * i + k);
            if ((int) number != now.dust[i]) return i;
        }
        return -1;
    }

    public int count(int what) {
        int bits = 0;
        for (int p = 0; p < 9; p++) bits |= now.porters[p] == null ? 0 : 1 << p;
        int clauses = text.isEmpty() ? 0 : text.split(";").length;
        int[] first = {now.hour, clauses, now.tape.size(), now.x, now.gold, now.river, now.gone, Arrays.stream(now.dust).sum(), bits};
        if (in(what, 0, 8)) return first[what];
        if (in(what, 10, 15)) return now.purse[what - 10];
        if (in(what, 20, 25)) return now.skill[what - 20];
        if (in(what, 100, 199)) return now.rain.getOrDefault(what - 100, 0);
        return -1;
    }
}
