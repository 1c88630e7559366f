import java.math.BigInteger;
import java.util.ArrayList;
import java.util.HashMap;
import java.util.List;
import java.util.Map;

/**
 * The document once more, by other means: chances by all that can be, fractions of any size, GOERS
 * by Java's own classes, THE LAW by a stack and by splitting. It may be slow and may use the library.
 */
public final class Oracle {
    private static final int BAD = -1, NOT = -2, FULL = -3, STATE = -5;
    private static final long BAD_LONG = Long.MIN_VALUE;
    private static final int[] MOST = {144, 12, 12, 999, 1, 5, 99, 99, 99, 99};

    /** A fraction of any size. */
    record Q(BigInteger above, BigInteger below) {
        static Q of(long above, long below) {
            return new Q(BigInteger.valueOf(above), BigInteger.valueOf(below));
        }

        Q plus(Q o) {
            return new Q(above.multiply(o.below).add(o.above.multiply(below)), below.multiply(o.below));
        }

        Q times(Q o) {
            return new Q(above.multiply(o.above), below.multiply(o.below));
        }

        Q minus(Q o) {
            return plus(o.times(of(-1, 1)));
        }

        boolean less(Q o) {
            return above.multiply(o.below).compareTo(o.above.multiply(below)) < 0;
        }

        Q least(Q o) {
            return o.less(this) ? o : this;
        }

        long part(int part) {
            BigInteger g = above.gcd(below);
            return (part == 0 ? above : below).divide(g).longValueExact();
        }

        int of144() {
            return above.multiply(BigInteger.valueOf(144)).divide(below).intValueExact();
        }
    }

    private final Map<String, Integer> told = new HashMap<>();
    private int things = 0;
    private final List<Object[]> done = new ArrayList<>();
    private final List<Object[]> undone = new ArrayList<>();
    private String tape = "";
    private String text = "";
    private Map<String, Integer> days = newDays();
    private Map<String, Integer> kept = null;
    private final List<Goer> bodies = new ArrayList<>();
    private List<Integer> ran = new ArrayList<>();
    private final Object[] shelves = new Object[6];

    public Oracle() {
        told.put("6 0", 1);
        told.put("7 0", 0);
        told.put("8 0", 5);
    }

    private static Map<String, Integer> newDays() {
        Map<String, Integer> fresh = new HashMap<>();
        fresh.put("morning", -1);
        return fresh;
    }

    private int day(String name) {
        return days.getOrDefault(name, 0);
    }

    private void more(String name, int by, int most) {
        days.put(name, Math.min(day(name) + by, most));
    }

    // ---- things

    public int thing(int forgotten, int harm) {
        if (forgotten < 0 || forgotten > 144 || harm < 0 || harm > 999) {
            return BAD;
        }
        return things == 6 ? FULL : come(forgotten, 10, 3, harm);
    }

    private int come(int forgotten, int trace, int stale, int harm) {
        int[] all = {forgotten, trace, stale, harm, 0, 0};
        for (int what = 0; what < 6; what++) {
            told.put(what + " " + things, all[what]);
        }
        return things++;
    }

    public int things(int shelf, int i, int n) {
        if (shelf < 0 || shelf > 5 || n < 1 || n > 6) {
            return BAD;
        }
        if (shelves[shelf] == null) {
            return 0;
        }
        if (!(shelves[shelf] instanceof byte[] row)) {
            return -12;
        }
        int came = 0;
        for (long at = i; came < n; at += 3) {
            if (things == 6 || at < 0 || at + 3 > row.length) {
                return came;
            }
            int f = row[(int) at];
            int t = row[(int) at + 1];
            int s = row[(int) at + 2];
            if (f < 0 || t < 0 || t > 12 || s < 0 || s > 12) {
                return came;
            }
            come(f, t, s, 100);
            came++;
        }
        return came;
    }

    private String nameOf(int number, int what) {
        if (what >= 0 && what <= 5 && number >= 0 && number < things || what >= 6 && what <= 8 && number == 0) {
            return what + " " + number;
        }
        if (what == 9 && number >= 0 && number <= 55) {
            int a = number / 10;
            int b = number % 10;
            if (b <= 5 && a != b) {
                told.putIfAbsent("9 " + Math.min(a, b) + Math.max(a, b), 9);
                return "9 " + Math.min(a, b) + Math.max(a, b);
            }
        }
        return null;
    }

    public int mend(int number, int what, int v) {
        String name = nameOf(number, what);
        if (name == null || v < 0 || v > MOST[what]) {
            return BAD;
        }
        int was = told.get(name);
        if (was != v) {
            told.put(name, v);
            done.add(new Object[] {name, was, v});
            undone.clear();
            if (done.size() > 40) {
                done.remove(0);
            }
        }
        return was;
    }

    public int of(int number, int what) {
        String name = nameOf(number, what);
        if (name != null) {
            return told.get(name);
        }
        if (what == 10 && number >= 0 && number < things) {
            return day("used" + number);
        }
        return number != 0 || what != 11 && what != 12 ? BAD : day(what == 11 ? "vain" : "rung");
    }

    public int feed(int letter) {
        if (letter < 0 || letter > 255) {
            return BAD;
        }
        if (tape.length() == 120) {
            return FULL;
        }
        tape += (char) letter;
        return tape.length();
    }

    public int law() {
        String told = tape;
        tape = "";
        int fault = fault(told);
        if (fault >= 0) {
            return -100 - fault;
        }
        text = told;
        return 1;
    }

    private long shown(Q q, int part) {
        return q == null ? NOT : q.part(part);
    }

    private Q openOf(int thing, int r) {
        int f = of(thing, 0);
        if (r == 2) {
            return Q.of(f, 144);
        }
        int t = of(thing, 4) == 1 ? 12 : of(thing, 1);
        int s = of(thing, 4) == 1 ? of(thing, 10) : of(thing, 2);
        int not = f * (r == 1 ? s : 12 - s);
        int all = not + (144 - f) * (r == 1 ? t : 12 - t);
        return all == 0 ? null : Q.of(not, all);
    }

    public long open(int thing, int r, int part) {
        if (thing < 0 || thing >= things || r < 0 || r > 2 || part < 0 || part > 1) {
            return BAD_LONG;
        }
        return shown(openOf(thing, r), part);
    }

    // ---- THE LAW by a stack of what is open

    private static int fault(String s) {
        String open = "";
        boolean wanted = true;
        String level = "";
        String levels = "";
        boolean asked = false;
        for (int i = 0; i < s.length(); i++) {
            char c = s.charAt(i);
            if (wanted) {
                if ("!-(".indexOf(c) >= 0) {
                    if (open.length() == 6) {
                        return i;
                    }
                    open += c;
                    if (c == '(') {
                        levels += level.isEmpty() ? "." : level;
                        level = "";
                    }
                    continue;
                }
                if (Character.isDigit(c) && c < 128) {
                    int end = i;
                    while (end < s.length() && end < i + 4 && s.charAt(end) >= '0' && s.charAt(end) <= '9') {
                        end++;
                    }
                    i = end - 1;
                } else if ("ohypvn".indexOf(c) < 0) {
                    return i;
                }
                wanted = false;
                open = open.replaceAll("[!-]+$", "");
                continue;
            }
            if (c == ')') {
                if (!open.endsWith("(")) {
                    return i;
                }
                open = open.substring(0, open.length() - 1).replaceAll("[!-]+$", "");
                level = levels.endsWith(".") ? "" : "compared";
                levels = levels.substring(0, levels.length() - (levels.endsWith(".") ? 1 : 8));
                continue;
            }
            wanted = true;
            if ("+-*/%".indexOf(c) >= 0) {
                continue;
            }
            if ("<=>".indexOf(c) >= 0 && level.isEmpty()) {
                level = "compared";
            } else if ("|&".indexOf(c) >= 0) {
                level = "";
            } else if (c == '?' && open.isEmpty() && !asked) {
                asked = true;
                level = "";
            } else if (c == ';' && open.isEmpty()) {
                asked = false;
                level = "";
            } else {
                return i;
            }
        }
        return wanted || !open.isEmpty() ? s.length() : -1;
    }

    // ---- and its value by splitting where it binds least

    private static int lines(String s, Map<Character, Integer> names) {
        for (String line : s.split(";")) {
            int q = line.indexOf('?');
            if (q < 0) {
                return value(line, names);
            }
            if (value(line.substring(0, q), names) != 0) {
                return value(line.substring(q + 1), names);
            }
        }
        return 0;
    }

    private static int value(String s, Map<Character, Integer> names) {
        for (String signs : new String[] {"|", "&", "<=>", "+-", "*/%"}) {
            int at = split(s, signs);
            if (at > 0) {
                int a = value(s.substring(0, at), names);
                int b = value(s.substring(at + 1), names);
                switch (s.charAt(at)) {
                    case '|': return a != 0 || b != 0 ? 1 : 0;
                    case '&': return a != 0 && b != 0 ? 1 : 0;
                    case '<': return a < b ? 1 : 0;
                    case '=': return a == b ? 1 : 0;
                    case '>': return a > b ? 1 : 0;
                    case '+': return a + b;
                    case '-': return a - b;
                    case '*': return a * b;
                    case '/': return b == 0 ? 0 : a / b;
                    default: return b == 0 ? 0 : a % b;
                }
            }
        }
        if (s.startsWith("!")) {
            return value(s.substring(1), names) == 0 ? 1 : 0;
        }
        if (s.startsWith("-")) {
            return -value(s.substring(1), names);
        }
        if (s.startsWith("(")) {
            return value(s.substring(1, s.length() - 1), names);
        }
        return names.containsKey(s.charAt(0)) ? names.get(s.charAt(0)) : Integer.parseInt(s);
    }

    /** The last of these signs that stands between two operands outside all brackets. */
    private static int split(String s, String signs) {
        int deep = 0;
        for (int i = s.length() - 1; i > 0; i--) {
            char c = s.charAt(i);
            deep += c == ')' ? 1 : c == '(' ? -1 : 0;
            char ahead = s.charAt(i - 1);
            boolean behindOperand = ahead == ')' || Character.isLetterOrDigit(ahead);
            if (deep == 0 && signs.indexOf(c) >= 0 && behindOperand) {
                return i;
            }
        }
        return -1;
    }

    private boolean lawSays(Q open, int thing, int y, int n) {
        int o = open.of144();
        int h = of(thing, 3);
        if (text.isEmpty()) {
            return (long) o * h > 288L * y * of(0, 6);
        }
        return lines(text, Map.of('o', o, 'h', h, 'y', y, 'p', of(0, 6), 'v', day("vain"), 'n', n)) != 0;
    }

    // ---- going back

    private Q worthOf(int thing, Q open, int y) {
        return open.times(Q.of(of(thing, 3), 1)).minus(Q.of(2L * y * of(0, 6), 1));
    }

    private boolean noTr(int tr, int most) {
        return tr < 0 || tr / 10 >= things || tr % 10 > most;
    }

    private static boolean noYards(int y) {
        return y < 0 || y > 99;
    }

    public int pays(int tr, int y) {
        if (noTr(tr, 2) || noYards(y)) {
            return BAD;
        }
        Q open = openOf(tr / 10, tr % 10);
        return open == null ? NOT : Q.of(0, 1).less(worthOf(tr / 10, open, y)) ? 1 : 0;
    }

    public long worth(int tr, int y, int part) {
        if (noTr(tr, 2) || noYards(y) || part < 0 || part > 1) {
            return BAD_LONG;
        }
        Q open = openOf(tr / 10, tr % 10);
        return open == null ? NOT : worthOf(tr / 10, open, y).part(part);
    }

    public int howFar(int tr) {
        if (noTr(tr, 2)) {
            return BAD;
        }
        int far = NOT;
        for (int y = 0; y <= 99; y++) {
            far = pays(tr, y) == 1 ? y : far;
        }
        return far;
    }

    /** Those in doubt with their chances; null: one cannot be so. */
    private Map<Integer, Q> doubts(int dr) {
        Map<Integer, Q> all = new HashMap<>();
        for (int t = 0; t < 6; t++) {
            if ((dr >> t & 1) == 1) {
                Q open = openOf(t, dr >> 6 + t & 1);
                if (open == null) {
                    return null;
                }
                all.put(t, open);
            }
        }
        return all;
    }

    private boolean noDoubt(int dr) {
        return dr < 0 || dr > 4095 || (dr / 64 & ~(dr % 64)) != 0 || Integer.bitCount(dr % 64) > 4
                || dr % 64 >= 1 << things;
    }

    private static Q chance(Map<Integer, Q> doubts, int open) {
        Q p = Q.of(1, 1);
        for (Map.Entry<Integer, Q> one : doubts.entrySet()) {
            boolean isOpen = (open >> one.getKey() & 1) == 1;
            p = p.times(isOpen ? one.getValue() : Q.of(1, 1).minus(one.getValue()));
        }
        return p;
    }

    private Q harms(int open) {
        int sum = 0;
        for (int t = 0; t < 6; t++) {
            sum += (open >> t & 1) == 1 ? of(t, 3) : 0;
        }
        return Q.of(sum, 1);
    }

    /** What those of a mask that are open cost on the mean, given some that are surely so or not. */
    private Q mean(Map<Integer, Q> doubts, int bits, int mask) {
        Q sum = Q.of(0, 1);
        for (int open = 0; open < 64; open++) {
            if ((open & ~bits) == 0) {
                sum = sum.plus(chance(doubts, open).times(harms(open & mask)));
            }
        }
        return sum;
    }

    public long best(int dr, int y, int part) {
        if (noDoubt(dr) || noYards(y) || part < 0 || part > 2) {
            return BAD_LONG;
        }
        Map<Integer, Q> doubts = doubts(dr);
        if (doubts == null) {
            return NOT;
        }
        int bits = dr % 64;
        int best = -1;
        Q least = null;
        for (int s = 0; s < 64; s++) {
            if ((s & ~bits) == 0) {
                Q cost = mean(doubts, bits, ~s);
                if (s != 0) {
                    cost = cost.plus(Q.of(2L * y * of(0, 6) + (long) of(0, 7) * Integer.bitCount(s), 1));
                }
                if (best < 0 || cost.less(least)) {
                    best = s;
                    least = cost;
                }
            }
        }
        return part == 2 ? best : least.part(part);
    }

    public int gone(int dr, int y) {
        if (noDoubt(dr) || noYards(y)) {
            return BAD;
        }
        Map<Integer, Q> doubts = doubts(dr);
        if (doubts == null) {
            return NOT;
        }
        int worst = -1;
        int greatest = -1;
        for (int t = 0; t < 6; t++) {
            if (doubts.containsKey(t) && doubts.get(t).of144() * of(t, 3) > greatest) {
                worst = t;
                greatest = doubts.get(t).of144() * of(t, 3);
            }
        }
        return worst >= 0 && lawSays(doubts.get(worst), worst, y, doubts.size()) ? 1 : 0;
    }

    public long plan(int dr, int yb, int part) {
        if (noDoubt(dr) || yb < 0 || yb / 64 > 99 || yb % 64 >= 1 << things || part < 0 || part > 2) {
            return BAD_LONG;
        }
        Map<Integer, Q> doubts = doubts(dr);
        if (doubts == null) {
            return NOT;
        }
        int bits = dr % 64;
        int seen = yb % 64;
        Q way = Q.of(2L * (yb / 64) * of(0, 6), 1);
        Q stay = mean(doubts, bits, 63);
        Q ring = Q.of(of(0, 8), 1);
        Q picks = Q.of(12 - day("rung"), 12);
        for (int open = 0; open < 64; open++) {
            if ((open & ~bits) == 0) {
                Q then = (open & seen) != 0 ? way : harms(open);
                ring = ring.plus(picks.times(chance(doubts, open)).times(then));
            }
        }
        ring = ring.plus(Q.of(day("rung"), 12).times(stay.least(way)));
        int plan = 0;
        Q least = stay;
        if (way.less(least)) {
            plan = 1;
            least = way;
        }
        if (ring.less(least)) {
            plan = 2;
            least = ring;
        }
        return part == 2 ? plan : least.part(part);
    }

    public int rung() {
        more("rung", 1, 12);
        return day("rung");
    }

    // ---- two, ways, lists

    public long two(int ab, int what, int part) {
        if (ab < 0 || ab / 100 > 12 || ab % 100 > 12 || what < 0 || what > 3 || part < 0 || part > 1) {
            return BAD_LONG;
        }
        int[] count = new int[3];
        for (int i = 0; i < 12; i++) {
            for (int j = 0; j < 12; j++) {
                count[(i < ab / 100 ? 1 : 0) + (j < ab % 100 ? 1 : 0)]++;
            }
        }
        return Q.of(what == 3 ? count[0] + count[2] : count[what], 144).part(part);
    }

    private int yards(int a, int b) {
        return a == b ? 0 : of(10 * a + b, 9);
    }

    private List<Integer> shortestOf(int a, int z, int rooms) {
        List<Integer> best = null;
        List<List<Integer>> ways = new ArrayList<>();
        List<Integer> start = new ArrayList<>(List.of(a));
        grow(start, z, rooms & ~(1 << a) & ~(1 << z), ways);
        for (List<Integer> way : ways) {
            if (best == null || yardsOf(way) < yardsOf(best)) {
                best = way;
            }
        }
        return best;
    }

    private static void grow(List<Integer> way, int z, int left, List<List<Integer>> ways) {
        if (left == 0) {
            List<Integer> whole = new ArrayList<>(way);
            whole.add(z);
            ways.add(whole);
        }
        for (int room = 0; room < 6; room++) {
            if ((left >> room & 1) == 1) {
                way.add(room);
                grow(way, z, left & ~(1 << room), ways);
                way.remove(way.size() - 1);
            }
        }
    }

    private int yardsOf(List<Integer> way) {
        int sum = 0;
        for (int i = 1; i < way.size(); i++) {
            sum += yards(way.get(i - 1), way.get(i));
        }
        return sum;
    }

    public int shortest(int az, int rooms, int k) {
        if (az < 0 || az / 10 > 5 || az % 10 > 5 || rooms < 0 || rooms > 63 || k < -1) {
            return BAD;
        }
        List<Integer> way = shortestOf(az / 10, az % 10, rooms);
        return k == -1 ? yardsOf(way) : k < way.size() ? way.get(k) : NOT;
    }

    public int length(int shelf, int what) {
        if (shelf < 0 || shelf > 5 || what < 0 || what > 1) {
            return BAD;
        }
        if (shelves[shelf] == null) {
            return -11;
        }
        if (!(shelves[shelf] instanceof byte[] row)) {
            return -12;
        }
        List<Integer> way = new ArrayList<>();
        int rooms = 0;
        for (byte room : row) {
            if (room < 0 || room > 5) {
                return STATE;
            }
            way.add((int) room);
            rooms |= 1 << room;
        }
        if (way.isEmpty()) {
            return STATE;
        }
        return yardsOf(way) - (what == 0 ? 0 : yardsOf(shortestOf(way.get(0), way.get(way.size() - 1), rooms)));
    }

    public long list(int ts, int part) {
        if (ts < 0 || ts / 100 >= things || ts % 100 > 12 || part < 0 || part > 1) {
            return BAD_LONG;
        }
        Q not = Q.of((long) of(ts / 100, 0) * (ts % 100), 144 * 12);
        Q yes = not.plus(Q.of(144 - of(ts / 100, 0), 144));
        if (yes.above().signum() == 0) {
            return NOT;
        }
        return not.times(new Q(yes.below(), yes.above())).part(part);
    }

    public long ever(int thing, int n, int part) {
        if (thing < 0 || thing >= things || n < 0 || n > 7 || part < 0 || part > 1) {
            return BAD_LONG;
        }
        Q never = Q.of(1, 1);
        for (int i = 0; i < n; i++) {
            never = never.times(Q.of(144 - of(thing, 0), 144));
        }
        return Q.of(1, 1).minus(never).part(part);
    }

    public long camera(int dr, int y, int part) {
        if (noDoubt(dr) || noYards(y) || part < 0 || part > 2) {
            return BAD_LONG;
        }
        Map<Integer, Q> doubts = doubts(dr);
        if (doubts == null || doubts.isEmpty()) {
            return NOT;
        }
        Q way = Q.of(2L * y * of(0, 6), 1);
        Q without = mean(doubts, dr % 64, 63).least(way);
        int which = -1;
        Q most = null;
        for (int t = 0; t < 6; t++) {
            if (doubts.containsKey(t)) {
                Map<Integer, Q> isOpen = new HashMap<>(doubts);
                isOpen.put(t, Q.of(1, 1));
                Map<Integer, Q> isShut = new HashMap<>(doubts);
                isShut.put(t, Q.of(0, 1));
                Q with = doubts.get(t).times(mean(isOpen, dr % 64, 63).least(way))
                        .plus(Q.of(1, 1).minus(doubts.get(t)).times(mean(isShut, dr % 64, 63).least(way)));
                Q saves = without.minus(with);
                if (which < 0 || most.less(saves)) {
                    which = t;
                    most = saves;
                }
            }
        }
        return part == 2 ? which : most.part(part);
    }

    // ---- mornings

    private static long next(long z) {
        return (z * 1103515245L + 12345L) & 0xffffffffL;
    }

    private boolean[] drawMorning(int thing, long z1, long z2) {
        boolean open = (z1 >> 8) % 144 < of(thing, 0);
        int t = of(thing, 4) == 1 ? 12 : of(thing, 1);
        int s = of(thing, 4) == 1 ? of(thing, 10) : of(thing, 2);
        return new boolean[] {open, (z2 >> 8) % 12 < (open ? s : t)};
    }

    private boolean decides(int way, int thing, int r, int y) {
        Q open = openOf(thing, r) == null ? Q.of(0, 1) : openOf(thing, r);
        return switch (way) {
            case 0 -> false;
            case 1 -> true;
            case 2 -> r == 0;
            case 3 -> Q.of(0, 1).less(worthOf(thing, open, y));
            default -> lawSays(open, thing, y, 1);
        };
    }

    public int drawn(int seed, int n, int tyw, int what) {
        if (n < 1 || n > 60 || tyw < 0 || tyw / 1000 >= things || tyw % 10 > 4 || what < 0 || what > 1) {
            return BAD;
        }
        int thing = tyw / 1000;
        int y = tyw % 1000 / 10;
        long z = seed;
        int[] sums = new int[2];
        for (int i = 0; i < n; i++) {
            long z1 = next(z);
            z = next(z1);
            boolean[] morning = drawMorning(thing, z1, z);
            if (decides(tyw % 10, thing, morning[1] ? 1 : 0, y)) {
                sums[0] += 2 * y * of(0, 6);
                sums[1] += morning[0] ? 0 : 1;
            } else {
                sums[0] += morning[0] ? of(thing, 3) : 0;
            }
        }
        return sums[what];
    }

    public int fits(int shelf, int tr) {
        int ways = 0;
        for (int way = 0; way < 5; way++) {
            int first = when(shelf, tr, way);
            if (first < 0 && first != NOT) {
                return first;
            }
            ways |= first == NOT ? 1 << way : 0;
        }
        return ways;
    }

    public int when(int shelf, int tr, int way) {
        if (shelf < 0 || shelf > 5 || noTr(tr, 1) || way < 0 || way > 4) {
            return BAD;
        }
        if (shelves[shelf] == null) {
            return -11;
        }
        if (!(shelves[shelf] instanceof byte[] row)) {
            return -12;
        }
        int first = NOT;
        for (int i = 0; i < row.length; i += 2) {
            if (i + 1 == row.length || row[i] < 0 || row[i] > 1 || row[i + 1] < 0 || row[i + 1] > 99) {
                return STATE;
            }
            if (first == NOT && decides(way, tr / 10, tr % 10, row[i + 1]) != (row[i] == 1)) {
                first = i / 2;
            }
        }
        return first;
    }

    public int judge(int shelf) {
        if (shelf < 0 || shelf > 5) {
            return BAD;
        }
        if (shelves[shelf] == null) {
            return -11;
        }
        if (!(shelves[shelf] instanceof short[] row)) {
            return -12;
        }
        for (int i = 0; i < row.length; i += 3) {
            boolean so = i + 2 < row.length && row[i] >= 0 && row[i] < things && (row[i + 1] == 0 || row[i + 1] == 1);
            Q open = so ? openOf(row[i], row[i + 1]) : null;
            if (open == null || open.of144() != row[i + 2]) {
                return i / 3;
            }
        }
        return NOT;
    }

    public int morning(int thing, int seed) {
        if (thing < 0 || thing >= things) {
            return BAD;
        }
        if (day("morning") >= 0) {
            return STATE;
        }
        boolean[] morning = drawMorning(thing, next(seed), next(next(seed)));
        days.put("morning", thing);
        days.put("open", morning[0] ? 1 : 0);
        if (of(thing, 4) == 1) {
            more("used" + thing, 1, 12);
            days.put("since" + thing, 1);
        }
        return morning[1] ? 1 : 0;
    }

    private int end(int cost) {
        days.put("morning", -1);
        more("led0", 1, 999);
        more("led3", cost, Integer.MAX_VALUE);
        days.put("led4", Math.max(cost, day("led4")));
        return cost;
    }

    public int goBack(int y) {
        if (noYards(y)) {
            return BAD;
        }
        if (day("morning") < 0) {
            return STATE;
        }
        more("led1", 1, 999);
        if (day("open") == 0) {
            more("led2", 1, 999);
            more("vain", 1, 99);
        }
        return end(2 * y * of(0, 6));
    }

    public int goOn() {
        if (day("morning") < 0) {
            return STATE;
        }
        return end(day("open") == 1 ? of(day("morning"), 3) : 0);
    }

    public int dayOff() {
        int less = 0;
        for (int t = 0; t < things; t++) {
            if (day("since" + t) == 0 && day("used" + t) > 0) {
                more("used" + t, -1, 12);
                less++;
            }
            days.remove("since" + t);
        }
        return less;
    }

    public int led(int what) {
        return what < 0 || what > 4 ? BAD : day("led" + what);
    }

    public int image() {
        kept = new HashMap<>(days);
        return day("led0");
    }

    public int back() {
        if (kept == null) {
            return STATE;
        }
        days = new HashMap<>(kept);
        return day("led0");
    }

    public int undo() {
        if (done.isEmpty()) {
            return STATE;
        }
        Object[] change = done.remove(done.size() - 1);
        undone.add(change);
        told.put((String) change[0], (Integer) change[1]);
        return done.size();
    }

    public int redo() {
        if (undone.isEmpty()) {
            return STATE;
        }
        Object[] change = undone.remove(undone.size() - 1);
        done.add(change);
        told.put((String) change[0], (Integer) change[2]);
        return undone.size();
    }

    // ---- acts, by Java's own classes

    interface Goes {
        int number();

        void runs(int body);

        default int goes(int x) {
            runs(1);
            return x + number();
        }
    }

    interface Tells {
        int looks(int x);

        int shuts(int x);

        void runs(int body);

        default int tells(int x) {
            runs(2);
            return looks(x) - shuts(1);
        }
    }

    static class Goer implements Goes, Tells {
        int number;
        List<Integer> ran;

        public int number() {
            return number;
        }

        public void runs(int body) {
            ran.add(body);
        }

        public int looks(int x) {
            runs(10);
            return goes(x) * 2;
        }

        public int shuts(int x) {
            runs(11);
            return x ^ number;
        }
    }

    static class Never extends Goer {
        public int goes(int x) {
            runs(20);
            return super.goes(x) + 3;
        }
    }

    static class Doubt extends Goer {
        public int looks(int x) {
            runs(30);
            return -super.looks(x);
        }
    }

    static class Best extends Doubt {
        public int shuts(int x) {
            runs(40);
            return super.shuts(x) * 3;
        }

        public int looks(int x) {
            runs(41);
            return super.looks(x + 1);
        }
    }

    static class Mark extends Never {
        public int shuts(int x) {
            runs(50);
            return super.shuts(x) - goes(2);
        }
    }

    static class Asked extends Best {
        public int tells(int x) {
            runs(60);
            return super.tells(x) ^ 5;
        }
    }

    static class Both extends Goer {
        public int goes(int x) {
            runs(70);
            return super.goes(x) * 2;
        }
    }

    static class Round extends Mark {
        public int looks(int x) {
            runs(80);
            return super.looks(x) + shuts(2);
        }

        public int tells(int x) {
            runs(81);
            return super.tells(x) - 1;
        }
    }

    private static final List<Class<? extends Goer>> KINDS = List.of(Goer.class, Never.class, Doubt.class, Best.class,
            Mark.class, Asked.class, Both.class, Round.class);

    public int body(int kind) {
        if (kind < 0 || kind > 7) {
            return BAD;
        }
        if (bodies.size() == 50) {
            return FULL;
        }
        Goer goer = switch (kind) {
            case 0 -> new Goer();
            case 1 -> new Never();
            case 2 -> new Doubt();
            case 3 -> new Best();
            case 4 -> new Mark();
            case 5 -> new Asked();
            case 6 -> new Both();
            default -> new Round();
        };
        goer.number = bodies.size();
        bodies.add(goer);
        return goer.number;
    }

    public int act(int body, int act, int x) {
        ran = new ArrayList<>();
        if (body < 0 || body >= bodies.size() || act < 0 || act > 3) {
            return 0;
        }
        Goer goer = bodies.get(body);
        goer.ran = ran;
        return switch (act) {
            case 0 -> goer.goes(x);
            case 1 -> goer.looks(x);
            case 2 -> goer.shuts(x);
            default -> goer.tells(x);
        };
    }

    public int trace(int i) {
        return i < 0 || i >= Math.min(24, ran.size()) ? BAD : ran.get(i);
    }

    // ---- shelves, by Java's own arrays

    public int keep(int shelf, int body) {
        if (shelf < 0 || shelf > 5 || body < -1 || body >= bodies.size()) {
            return BAD;
        }
        shelves[shelf] = body == -1 ? null : bodies.get(body);
        return 1;
    }

    public int row(int shelf, int sort, int n) {
        if (shelf < 0 || shelf > 5 || sort < 0 || sort > 4 || n > 60) {
            return BAD;
        }
        if (n < 0) {
            return -14;
        }
        shelves[shelf] = switch (sort) {
            case 0 -> new byte[n];
            case 1 -> new short[n];
            case 2 -> new int[n];
            case 3 -> new long[n];
            default -> new boolean[n];
        };
        return 1;
    }

    public int put(int shelf, int i, long v) {
        if (shelf < 0 || shelf > 5) {
            return BAD;
        }
        if (shelves[shelf] == null) {
            return -11;
        }
        try {
            if (shelves[shelf] instanceof byte[] row) {
                row[i] = (byte) v;
            } else if (shelves[shelf] instanceof short[] row) {
                row[i] = (short) v;
            } else if (shelves[shelf] instanceof int[] row) {
                row[i] = (int) v;
            } else if (shelves[shelf] instanceof long[] row) {
                row[i] = v;
            } else if (shelves[shelf] instanceof boolean[] row) {
                row[i] = v != 0;
            } else {
                return -12;
            }
        } catch (ArrayIndexOutOfBoundsException e) {
            return -13;
        }
        return 1;
    }

    public long element(int shelf, int i) {
        if (shelf < 0 || shelf > 5 || shelves[shelf] == null || shelves[shelf] instanceof Goer) {
            return BAD_LONG;
        }
        try {
            if (shelves[shelf] instanceof boolean[] row) {
                return row[i] ? 1 : 0;
            }
            return java.lang.reflect.Array.getLong(shelves[shelf], i);
        } catch (ArrayIndexOutOfBoundsException e) {
            return BAD_LONG;
        }
    }

    public int shift(int shelf, int i, int other, int j, int n) {
        if (shelf < 0 || shelf > 5 || other < 0 || other > 5) {
            return BAD;
        }
        try {
            System.arraycopy(shelves[shelf], i, shelves[other], j, n);
            return n;
        } catch (NullPointerException e) {
            return -11;
        } catch (ArrayStoreException e) {
            return -12;
        } catch (IndexOutOfBoundsException e) {
            return -13;
        }
    }

    public int taken(int shelf, int k) {
        if (shelf < 0 || shelf > 5 || k < 0 || k > 7) {
            return BAD;
        }
        if (shelves[shelf] == null) {
            return -11;
        }
        return KINDS.get(k).isInstance(shelves[shelf]) ? KINDS.indexOf(shelves[shelf].getClass()) : -12;
    }

    public int count(int what) {
        int marked = 0;
        for (int t = 0; t < things; t++) {
            marked += of(t, 4);
        }
        int[] counts = {things, marked, tape.length(), done.size(), bodies.size(), ran.size()};
        return what < 0 || what > 5 ? BAD : counts[what];
    }
}
