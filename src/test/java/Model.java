import java.util.ArrayDeque;
import java.util.ArrayList;
import java.util.Arrays;
import java.util.Comparator;
import java.util.Deque;
import java.util.List;
import java.util.regex.Matcher;
import java.util.regex.Pattern;

/**
 * The document once more, written another way (whole copies, lists, day by day), to be compared
 * with the class in long runs of calls. It bears the class's method names, for the comparison.
 */
public final class Model {
    private static final int BAD = -1, STATE = -2, FULL = -3, NONE = -9, NO = -1000000;

    private static final class Now {
        List<Integer> ages = new ArrayList<>();
        List<Integer> sides = new ArrayList<>();
        List<Integer> sent = new ArrayList<>();
        int stack, bound, day, earned, year, front;

        Now copy() {
            Now n = new Now();
            n.ages.addAll(ages);
            n.sides.addAll(sides);
            n.sent.addAll(sent);
            n.stack = stack;
            n.bound = bound;
            n.day = day;
            n.earned = earned;
            n.year = year;
            n.front = front;
            return n;
        }
    }

    private StringBuilder text = new StringBuilder();
    private List<int[]> parts = new ArrayList<>();
    private List<int[]> orders = new ArrayList<>();
    private int ripe = 9, twigs = 3, pace = 11, length = 9;
    private Now now = new Now();
    private final Deque<Now> past = new ArrayDeque<>();
    private final Now[] images = new Now[2];
    private final List<int[]> seen = new ArrayList<>();
    private long trace;

    public Model() {
        begin();
    }

    private void begin() {
        now = new Now();
        for (int[] p : parts) {
            now.ages.add(p[1]);
        }
        for (int i = 0; i < 8; i++) {
            now.sides.add(length);
        }
        past.clear();
        seen.clear();
        images[0] = null;
        images[1] = null;
    }

    public int type(int letter) {
        if (letter != (letter & 255)) {
            return BAD;
        }
        if (text.length() == 200) {
            return FULL;
        }
        text.append((char) letter);
        return text.length();
    }

    public int clear() {
        int had = text.length();
        text = new StringBuilder();
        return had;
    }

    private static final Pattern TOKEN = Pattern.compile("[0-9]+|[^ ]", Pattern.DOTALL);

    /** What kind of token may stand next: a row of letters, n for a number; by the tokens of the item so far. */
    private static String shapeOf(String head) {
        switch (head) {
            case "w":
                return "wnn;";
            case "o":
                return "onnn;";
            default:
                return head + "n;";
        }
    }

    private static boolean within(String head, int place, int n) {
        String key = head + place;
        switch (key) {
            case "w1": return n >= 1 && n <= 9;
            case "w2": return n <= 30;
            case "o1":
            case "o2": return n >= 1 && n <= 60;
            case "o3": return true;
            case "r1": return n >= 3 && n <= 15;
            case "t1":
            case "p1": return n >= 1 && n <= 20;
            default: return n >= 1 && n <= 15;
        }
    }

    public int yard() {
        List<int[]> newParts = new ArrayList<>();
        List<int[]> newOrders = new ArrayList<>();
        int[] single = {9, 3, 11, 9};
        String told = "";
        String head = "";
        List<Integer> item = new ArrayList<>();
        int items = 0;
        Matcher m = TOKEN.matcher(text);
        while (m.find()) {
            String t = m.group();
            int fault = -10 - m.start();
            if (head.isEmpty()) {
                long before = t.length() == 1 ? told.chars().filter(c -> c == t.charAt(0)).count() : 0;
                if (t.length() > 1 || !"wortpl".contains(t) || before >= ("wo".contains(t) ? 6 : 1)) {
                    return fault;
                }
                head = t;
                told += t;
                item.clear();
                continue;
            }
            String shape = shapeOf(head);
            boolean ends = shape.charAt(item.size() + 1) == ';';
            if (ends) {
                if (!t.equals(";")) {
                    return fault;
                }
                int[] numbers = item.stream().mapToInt(i -> i).toArray();
                if (head.equals("w")) {
                    newParts.add(numbers);
                } else if (head.equals("o")) {
                    newOrders.add(numbers);
                } else {
                    single["rtpl".indexOf(head)] = numbers[0];
                }
                items++;
                head = "";
                continue;
            }
            if (!t.matches("0|[1-9][0-9]?") || !within(head, item.size() + 1, Integer.parseInt(t))) {
                return fault;
            }
            item.add(Integer.parseInt(t));
        }
        if (!head.isEmpty()) {
            return -10 - text.length();
        }
        parts = newParts;
        orders = newOrders;
        ripe = single[0];
        twigs = single[1];
        pace = single[2];
        length = single[3];
        text = new StringBuilder();
        begin();
        return items;
    }

    private boolean noPart(int p) {
        return p < 0 || p >= parts.size();
    }

    private boolean noOrder(int o) {
        return o < 0 || o >= orders.size();
    }

    private int gives(int size, int age) {
        int top = age > ripe ? ripe - 2 - (age - ripe) : age - 2;
        return Math.max(0, size * top);
    }

    private int partGives(int p) {
        return gives(parts.get(p)[0], now.ages.get(p));
    }

    public int part(int p, int what) {
        if (noPart(p) || what < 0 || what > 2) {
            return BAD;
        }
        return new int[] {parts.get(p)[0], now.ages.get(p), partGives(p)}[what];
    }

    public int order(int o, int what) {
        if (noOrder(o) || what < 0 || what > 3) {
            return BAD;
        }
        return what == 3 ? (now.sent.contains(o) ? 1 : 0) : orders.get(o)[what];
    }

    public int side(int s) {
        return s < 0 || s > 7 ? BAD : now.sides.get(s);
    }

    public int now(int what) {
        if (what < 0 || what > 7) {
            return BAD;
        }
        int bits = now.sent.stream().mapToInt(o -> 1 << o).sum();
        return new int[] {now.day, now.year, now.stack, now.bound, now.earned, bits, now.front, past.size()}[what];
    }

    private void remember() {
        past.addLast(now.copy());
        if (past.size() > 10) {
            past.removeFirst();
        }
    }

    public int cuts(int p) {
        if (noPart(p)) {
            return BAD;
        }
        remember();
        int got = partGives(p);
        now.stack += got;
        now.ages.set(p, 0);
        return got;
    }

    public int year() {
        if (now.year == 999) {
            return STATE;
        }
        remember();
        now.ages.replaceAll(a -> Math.min(40, a + 1));
        return ++now.year;
    }

    public int binds(int n) {
        if (n < 1 || n > 99) {
            return BAD;
        }
        int days = (int) Math.ceil(n / (double) pace);
        if (n * twigs > now.stack || now.day + days > 9999) {
            return STATE;
        }
        remember();
        now.stack -= n * twigs;
        now.bound += n;
        now.day += days;
        return now.day;
    }

    public int sends(int o) {
        if (noOrder(o)) {
            return BAD;
        }
        int[] order = orders.get(o);
        if (now.sent.contains(o) || now.bound < order[1] || now.day > order[0]) {
            return STATE;
        }
        remember();
        now.sent.add(o);
        now.bound -= order[1];
        now.earned += order[2];
        return now.earned;
    }

    private static void sweep(List<Integer> sides, int front) {
        int[] by = {2, 1, 0, 0, 0, 0, 0, 1};
        for (int i = 0; i < 8; i++) {
            int s = (front + i) % 8;
            sides.set(s, Math.max(0, sides.get(s) - by[i]));
        }
    }

    public int sweeps() {
        remember();
        sweep(now.sides, now.front);
        return now.sides.get(now.front);
    }

    public int spins(int s) {
        if (s < 1 || s > 7) {
            return BAD;
        }
        remember();
        now.front = (now.front + s) % 8;
        return now.front;
    }

    public int undo() {
        if (past.isEmpty()) {
            return STATE;
        }
        now = past.removeLast();
        return past.size();
    }

    public int inYears(int p, int n) {
        return noPart(p) || n < 0 || n > 30 ? BAD : gives(parts.get(p)[0], Math.min(40, now.ages.get(p) + n));
    }

    private static int lowered(int upper, int lower, int what) {
        int d = Math.max(upper, lower);
        while (upper % d != 0 || lower % d != 0) {
            d--;
        }
        return (what == 0 ? upper : lower) / d;
    }

    public int turn(int y, int what) {
        if (y < 1 || y > 30 || what < 0 || what > 2) {
            return BAD;
        }
        if (what < 2) {
            return lowered(gives(1, y), y, what);
        }
        int best = 1;
        for (int i = 1; i <= 30; i++) {
            if (gives(1, i) / (double) i > gives(1, best) / (double) best + 1e-9) {
                best = i;
            }
        }
        return best;
    }

    /** What a row of cuts gets: done on a copy, year by year. */
    private int got(int[] row) {
        List<Integer> ages = new ArrayList<>(now.ages);
        int sum = 0;
        for (int p : row) {
            if (p >= 0) {
                sum += gives(parts.get(p)[0], ages.get(p));
                ages.set(p, 0);
            }
            ages.replaceAll(a -> Math.min(40, a + 1));
        }
        return sum;
    }

    public int plan(int n, int k) {
        if (n < 1 || n > 4 || k < -1 || k > 3) {
            return BAD;
        }
        if (k >= n) {
            return NONE;
        }
        int base = parts.size() + 1;
        int rows = (int) Math.round(Math.pow(base, n));
        int best = -1;
        int[] bestRow = null;
        for (int code = 0; code < rows; code++) {
            int[] row = new int[n];
            int left = code;
            for (int i = n - 1; i >= 0; i--) {
                row[i] = left % base - 1;
                left /= base;
            }
            int sum = got(row);
            if (sum > best) {
                best = sum;
                bestRow = row;
            }
        }
        return k < 0 ? best : bestRow[k] < 0 ? -5 : bestRow[k];
    }

    private List<Integer> unsent() {
        List<Integer> all = new ArrayList<>();
        for (int o = 0; o < orders.size(); o++) {
            if (!now.sent.contains(o)) {
                all.add(o);
            }
        }
        return all;
    }

    /** Day by day: bind at PACE while there are twigs, send what is due on the day's end. */
    private boolean canSend(List<Integer> set) {
        int bound = now.bound;
        int stack = now.stack;
        List<Integer> left = new ArrayList<>(set);
        left.sort(Comparator.comparingInt(o -> orders.get(o)[0]));
        for (int day = now.day; !left.isEmpty(); day++) {
            if (orders.get(left.get(0))[0] < day) {
                return false;
            }
            if (day > now.day) {
                int more = Math.min(pace, stack / twigs);
                bound += more;
                stack -= more * twigs;
            }
            while (!left.isEmpty() && orders.get(left.get(0))[0] == day) {
                bound -= orders.get(left.remove(0))[1];
                if (bound < 0) {
                    return false;
                }
            }
        }
        return true;
    }

    public int kept(int what) {
        if (what != 0 && what != 1) {
            return BAD;
        }
        List<Integer> all = unsent();
        int best = 0;
        int most = 0;
        for (int bits = 0; bits < 64; bits++) {
            List<Integer> set = new ArrayList<>();
            for (int o = 0; o < 6; o++) {
                if ((bits & 1 << o) != 0) {
                    set.add(o);
                }
            }
            if (!all.containsAll(set)) {
                continue;
            }
            int coins = set.stream().mapToInt(o -> orders.get(o)[2]).sum();
            if (coins > most && canSend(set)) {
                most = coins;
                best = bits;
            }
        }
        return what == 0 ? best : most;
    }

    public int next(int what) {
        if (what != 0 && what != 1) {
            return BAD;
        }
        Comparator<Integer> by = what == 0
                ? Comparator.comparingInt(o -> orders.get(o)[0])
                : Comparator.comparingDouble(o -> -orders.get(o)[2] / (double) orders.get(o)[1]);
        return unsent().stream().min(by.thenComparing(Comparator.naturalOrder())).orElse(NONE);
    }

    private int toBind() {
        return Math.max(0, unsent().stream().mapToInt(o -> orders.get(o)[1]).sum() - now.bound);
    }

    public int lack() {
        return Math.max(0, toBind() * twigs - now.stack);
    }

    public int cutFor() {
        for (int many = 0; many <= parts.size(); many++) {
            for (int bits = 0; bits < 1 << parts.size(); bits++) {
                int sum = 0;
                for (int p = 0; p < parts.size(); p++) {
                    sum += (bits >> p & 1) * partGives(p);
                }
                if (Integer.bitCount(bits) == many && sum >= lack()) {
                    return bits;
                }
            }
        }
        return NONE;
    }

    public int allBy() {
        int day = now.day;
        for (int left = toBind(); left > 0; left -= pace) {
            day++;
        }
        return day;
    }

    private List<Integer> sidesBehind(int sweepings, int s) {
        List<Integer> sides = new ArrayList<>(now.sides);
        for (int i = 0; i < sweepings; i++) {
            sweep(sides, (now.front + i * s) % 8);
        }
        return sides;
    }

    public int lasts(int s) {
        if (s < 0 || s > 7) {
            return BAD;
        }
        int sweepings = 0;
        while (!sidesBehind(sweepings, s).contains(0)) {
            sweepings++;
        }
        return sweepings;
    }

    public int latest() {
        int best = 0;
        for (int s = 7; s >= 0; s--) {
            best = lasts(s) >= lasts(best) ? s : best;
        }
        int most = lasts(best);
        for (int s = 0; s < 8; s++) {
            if (lasts(s) == most) {
                return s;
            }
        }
        return best;
    }

    public int saw(int k, int s, int v) {
        if (k < 0 || k > 40 || s < 0 || s > 7 || v < 0 || v > 15) {
            return BAD;
        }
        if (seen.size() == 5) {
            return FULL;
        }
        seen.add(new int[] {k, s, v});
        return seen.size();
    }

    public int forget() {
        int had = seen.size();
        seen.clear();
        return had;
    }

    public int which() {
        int bits = 0;
        for (int s = 0; s < 8; s++) {
            int turned = s;
            if (seen.stream().allMatch(f -> sidesBehind(f[0], turned).get(f[1]) == f[2])) {
                bits += 1 << s;
            }
        }
        return bits;
    }

    public int odds(int x, int n, int k, int what) {
        if (x < 0 || x > 10 || n < 0 || n > 6 || k < 0 || k > 6 || what < 0 || what > 1) {
            return BAD;
        }
        // chances[j]: in units of 10 to the n, that j hold.
        int[] chances = new int[8];
        chances[0] = 1;
        int lower = 1;
        for (int i = 0; i < n; i++) {
            for (int j = 7; j >= 0; j--) {
                chances[j] = chances[j] * x + (j > 0 ? chances[j - 1] * (10 - x) : 0);
            }
            lower *= 10;
        }
        return lowered(Arrays.stream(chances, k, 8).sum(), lower, what);
    }

    private static final int[] UP = {-1, 0, 0, 1, 2, 0};
    private static final int[] MARK = {1, 10, 100, 1000, 10000, 100000};

    public int rate(int kind, int p) {
        if (kind < 0 || kind > 5 || noPart(p)) {
            return NO;
        }
        trace += MARK[kind];
        int up = kind == 0 ? partGives(p) : rate(UP[kind], p);
        int[] of = {up, up + parts.get(p)[0], up - now.ages.get(p), 2 * up, up + p, up + now.year};
        return of[kind];
    }

    public int keep(int image) {
        if (image != 0 && image != 1) {
            return BAD;
        }
        images[image] = now.copy();
        return now.day;
    }

    public int back(int image) {
        if (image != 0 && image != 1) {
            return BAD;
        }
        if (images[image] == null) {
            return STATE;
        }
        now = images[image].copy();
        past.clear();
        return now.day;
    }

    public int count(int what) {
        if (what < 0 || what > 7) {
            return BAD;
        }
        return new int[] {parts.size(), orders.size(), ripe, twigs, pace, length, seen.size(), text.length()}[what];
    }

    public long trace() {
        return trace;
    }
}
