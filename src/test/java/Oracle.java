import java.math.BigInteger;
import java.util.ArrayList;
import java.util.HashMap;
import java.util.List;
import java.util.Map;
import java.util.TreeMap;
import java.util.TreeSet;

/**
 * The document told once more, in other ways than the class does it: paths by trying all, rounds by all orders,
 * planks by taking them away. It is slow, and written to be compared with.
 */
final class Oracle {
    static final int FAR_OFF = 1 << 20;

    /** One walker. */
    static final class One {
        int at;
        int home;
        int light;

        One(int at, int home, int light) {
            this.at = at;
            this.home = home;
            this.light = light;
        }
    }

    /** All but the pad. */
    static final class World {
        final Map<Integer, Integer> steps = new TreeMap<>();
        final Map<Integer, Boolean> wet = new HashMap<>();
        final TreeMap<Integer, One> ones = new TreeMap<>();
        final Map<Integer, Integer> load = new HashMap<>();
        boolean fog;
        final List<int[]> sights = new ArrayList<>();

        World copy() {
            World w = new World();
            w.steps.putAll(steps);
            w.wet.putAll(wet);
            ones.forEach((k, o) -> w.ones.put(k, new One(o.at, o.home, o.light)));
            w.load.putAll(load);
            w.fog = fog;
            sights.forEach(s -> w.sights.add(s.clone()));
            return w;
        }

        static int key(int p, int q) {
            return 12 * Math.min(p, q) + Math.max(p, q);
        }

        int cost(int p, int q) {
            int k = key(p, q);
            if (!steps.containsKey(k)) {
                return 0;
            }
            return steps.get(k) * (wet.get(k) ? 2 : 1) * (fog ? 2 : 1);
        }

        Integer bearer(int walker) {
            for (Map.Entry<Integer, Integer> e : load.entrySet()) {
                if (e.getValue() == walker) {
                    return e.getKey();
                }
            }
            return null;
        }

        void part(int walker) {
            load.remove(walker);
            Integer b = bearer(walker);
            if (b != null) {
                load.remove(b);
            }
        }

        int walkReason(int walker, int place) {
            if (!ones.containsKey(walker)) {
                return 1;
            }
            if (bearer(walker) != null) {
                return 3;
            }
            int c = cost(ones.get(walker).at, place);
            return c == 0 ? 5 : ones.get(walker).light < c ? 6 : 0;
        }

        int walk(int walker, int place) {
            One o = ones.get(walker);
            int c = cost(o.at, place);
            o.light -= c;
            o.at = place;
            if (load.containsKey(walker)) {
                ones.get(load.get(walker)).at = place;
            }
            return c;
        }
    }

    World w = new World();
    String pad = "";
    final World[] images = new World[2];

    private static boolean in(int x, int a, int b) {
        return a <= x && x <= b;
    }

    private static boolean place(int p) {
        return in(p, 0, 11);
    }

    /** Bellman and Ford, from one place. */
    private int[] from(int start) {
        int[] d = new int[12];
        java.util.Arrays.fill(d, FAR_OFF);
        d[start] = 0;
        boolean changed = true;
        while (changed) {
            changed = false;
            for (int key : w.steps.keySet()) {
                int p = key / 12;
                int q = key % 12;
                int c = w.cost(p, q);
                if (d[p] + c < d[q]) {
                    d[q] = d[p] + c;
                    changed = true;
                }
                if (d[q] + c < d[p]) {
                    d[p] = d[q] + c;
                    changed = true;
                }
            }
        }
        return d;
    }

    private int dist(int p, int q) {
        return from(p)[q];
    }

    /** The first least way by places, by trying places in rising order; null: none. */
    private List<Integer> path(int p, int q) {
        int[] d = from(q);
        if (d[p] >= FAR_OFF) {
            return null;
        }
        List<Integer> way = new ArrayList<>();
        if (p == q) {
            return way;
        }
        for (int r = 0; r < 12; r++) {
            int c = w.cost(p, r);
            if (c != 0 && d[r] < FAR_OFF && c + d[r] == d[p]) {
                way.add(r);
                way.addAll(path(r, q));
                return way;
            }
        }
        throw new IllegalStateException();
    }

    int plank(int p, int q, int steps, boolean wet) {
        if (!place(p) || !place(q) || p == q) {
            return -1;
        }
        if (!in(steps, 0, 99)) {
            return -2;
        }
        int k = World.key(p, q);
        int was = w.steps.getOrDefault(k, 0);
        if (steps == 0) {
            w.steps.remove(k);
        } else {
            w.steps.put(k, steps);
            w.wet.put(k, wet);
        }
        return was;
    }

    int walker(int n, int at, int home, int light) {
        if (!in(n, 0, 5) || !place(at) || !place(home)) {
            return -1;
        }
        if (!in(light, 0, 999)) {
            return -2;
        }
        w.part(n);
        w.ones.put(n, new One(at, home, light));
        return w.ones.size();
    }

    int leave(int n) {
        if (!w.ones.containsKey(n)) {
            return -1;
        }
        w.part(n);
        w.ones.remove(n);
        return w.ones.size();
    }

    int fog(boolean is) {
        int was = w.fog ? 1 : 0;
        w.fog = is;
        return was;
    }

    int say(int sign) {
        if (!in(sign, 33, 126)) {
            return -2;
        }
        if (pad.length() == 60) {
            return -4;
        }
        pad += (char) sign;
        return pad.length();
    }

    int wipe() {
        int was = pad.length();
        pad = "";
        return was;
    }

    /** The least length at which a start of the text is the start of no evening, by patterns. */
    int fault() {
        String act = "(~|[A-F]([a-l]|-|[+1-9][A-F]))";
        if (pad.matches(act + "*")) {
            return -6;
        }
        for (int n = 1; n <= pad.length(); n++) {
            if (!pad.substring(0, n).matches(act + "*([A-F][+1-9]?)?")) {
                return n - 1;
            }
        }
        return pad.length();
    }

    private World played;
    private int failed;
    private int reason;
    private int costs;
    private int acts;

    private int play() {
        if (fault() != -6) {
            return -5;
        }
        played = w.copy();
        failed = -6;
        reason = -6;
        costs = 0;
        acts = 0;
        java.util.regex.Matcher m = java.util.regex.Pattern.compile("~|[A-F](?:[a-l]|-|[+1-9][A-F])").matcher(pad);
        while (m.find()) {
            int why = act(m.group());
            if (why != 0) {
                failed = acts;
                reason = why;
                return -3;
            }
            acts++;
        }
        return 0;
    }

    private int act(String text) {
        World v = played;
        if (text.equals("~")) {
            v.fog = !v.fog;
            return 0;
        }
        int a = text.charAt(0) - 'A';
        char kind = text.charAt(1);
        TreeSet<Integer> why = new TreeSet<>();
        boolean isWalk = kind >= 'a';
        boolean isGift = kind >= '1' && kind <= '9';
        int b = kind == '+' || isGift ? text.charAt(2) - 'A' : -1;
        if (!v.ones.containsKey(a) || b >= 0 && !v.ones.containsKey(b)) {
            why.add(1);
        }
        if (a == b) {
            why.add(2);
        }
        if (v.bearer(a) != null || b >= 0 && v.bearer(b) != null) {
            why.add(3);
        }
        if (v.ones.containsKey(a)) {
            One one = v.ones.get(a);
            if (b >= 0 && v.ones.containsKey(b) && v.ones.get(b).at != one.at) {
                why.add(4);
            }
            if (isWalk && v.cost(one.at, kind - 'a') == 0) {
                why.add(5);
            }
            if (isWalk && one.light < v.cost(one.at, kind - 'a') || isGift && one.light < 10 * (kind - '0')) {
                why.add(6);
            }
        }
        if (kind == '+' && (v.load.containsKey(a) || v.load.containsKey(b)) || kind == '-' && !v.load.containsKey(a)) {
            why.add(7);
        }
        if (!why.isEmpty()) {
            return why.first();
        }
        if (isWalk) {
            costs += v.walk(a, kind - 'a');
        } else if (kind == '+') {
            v.load.put(a, b);
        } else if (kind == '-') {
            v.load.remove(a);
        } else {
            v.ones.get(a).light -= 10 * (kind - '0');
            v.ones.get(b).light = Math.min(999, v.ones.get(b).light + 10 * (kind - '0'));
        }
        return 0;
    }

    int judge(int what) {
        if (!in(what, 0, 2)) {
            return -2;
        }
        int r = play();
        if (r == -5) {
            return r;
        }
        return what == 0 ? failed : what == 1 ? reason : r == 0 ? costs : r;
    }

    int behind(int n, int what) {
        if (!w.ones.containsKey(n)) {
            return -1;
        }
        if (!in(what, 0, 3)) {
            return -2;
        }
        int r = play();
        if (r != 0) {
            return r;
        }
        One o = played.ones.get(n);
        Integer b = played.bearer(n);
        return what == 0 ? o.at : what == 1 ? o.light : what == 2 ? played.load.getOrDefault(n, -6) : b == null ? -6 : b;
    }

    int who(int p) {
        if (!place(p)) {
            return -1;
        }
        int r = play();
        if (r != 0) {
            return r;
        }
        return played.ones.entrySet().stream().filter(e -> e.getValue().at == p).mapToInt(e -> 1 << e.getKey()).sum();
    }

    int done() {
        int r = play();
        if (r != 0) {
            return r;
        }
        w = played;
        pad = "";
        return acts;
    }

    int way(int p, int q, int what) {
        if (!place(p) || !place(q)) {
            return -1;
        }
        if (!in(what, 0, 1)) {
            return -2;
        }
        List<Integer> way = path(p, q);
        if (way == null) {
            return -6;
        }
        if (what == 1) {
            return way.isEmpty() ? -6 : way.get(0);
        }
        return along(p, way).stream().mapToInt(Integer::intValue).sum();
    }

    private List<Integer> along(int p, List<Integer> way) {
        List<Integer> row = new ArrayList<>();
        int here = p;
        for (int next : way) {
            row.add(w.cost(here, next));
            here = next;
        }
        return row;
    }

    int far(int n) {
        if (!w.ones.containsKey(n)) {
            return -1;
        }
        int bits = 0;
        for (int p = 0; p < 12; p++) {
            if (dist(w.ones.get(n).at, p) <= w.ones.get(n).light) {
                bits += 1 << p;
            }
        }
        return bits;
    }

    int left(int n) {
        if (!w.ones.containsKey(n)) {
            return -1;
        }
        One o = w.ones.get(n);
        int d = dist(o.at, o.home);
        return d >= FAR_OFF ? -6 : o.light - d + 10000;
    }

    int out(int i) {
        if (i == -1) {
            return w.ones.size();
        }
        List<Integer> order = new ArrayList<>(w.ones.keySet());
        order.sort((a, b) -> dist(w.ones.get(a).at, w.ones.get(a).home) - dist(w.ones.get(b).at, w.ones.get(b).home));
        return i >= 0 && i < order.size() ? order.get(i) : -6;
    }

    private int bestCost;
    private int bestFirst;

    private void orders(int start, int here, int first, List<Integer> todo, int cost) {
        if (todo.isEmpty()) {
            int all = cost + dist(here, start);
            if (all < bestCost) {
                bestCost = all;
                bestFirst = first;
            }
            return;
        }
        for (int p : todo) {
            int c = cost + dist(here, p);
            if (c < bestCost + 1 && c < FAR_OFF) {
                List<Integer> rest = new ArrayList<>(todo);
                rest.remove(Integer.valueOf(p));
                orders(start, p, first == -6 ? p : first, rest, c);
            }
        }
    }

    int round(int p, int set, int what) {
        if (!place(p) || !in(set, 0, 4095)) {
            return -1;
        }
        if (!in(what, 0, 1)) {
            return -2;
        }
        List<Integer> todo = new ArrayList<>();
        for (int q = 0; q < 12; q++) {
            if ((set & 1 << q) != 0) {
                todo.add(q);
            }
        }
        if (todo.size() > 6) {
            return -4;
        }
        bestCost = FAR_OFF;
        bestFirst = -6;
        orders(p, p, -6, todo, 0);
        return bestCost >= FAR_OFF ? -6 : what == 0 ? bestCost : bestFirst;
    }

    int more(int p) {
        if (!place(p)) {
            return -1;
        }
        int has = 0;
        int needs = 0;
        for (One o : w.ones.values()) {
            if (o.at == p) {
                has += o.light;
                needs += dist(p, o.home);
            }
        }
        return needs >= FAR_OFF ? -6 : needs > has ? needs - has : 0;
    }

    int decides(int i) {
        List<Integer> found = new ArrayList<>();
        for (int key : new ArrayList<>(w.steps.keySet())) {
            int kept = w.steps.remove(key);
            if (dist(key / 12, key % 12) >= FAR_OFF) {
                found.add(key);
            }
            w.steps.put(key, kept);
        }
        return i == -1 ? found.size() : i >= 0 && i < found.size() ? found.get(i) : -6;
    }

    int wax(int what) {
        if (!in(what, 0, 1)) {
            return -2;
        }
        List<Integer> keys = new ArrayList<>(w.steps.keySet());
        keys.sort((a, b) -> w.cost(a / 12, a % 12) - w.cost(b / 12, b % 12));
        int[] group = new int[12];
        for (int p = 0; p < 12; p++) {
            group[p] = p;
        }
        int cost = 0;
        int count = 0;
        for (int key : keys) {
            int a = group[key / 12];
            int b = group[key % 12];
            if (a != b) {
                cost += w.cost(key / 12, key % 12);
                count++;
                for (int p = 0; p < 12; p++) {
                    group[p] = group[p] == b ? a : group[p];
                }
            }
        }
        return what == 0 ? cost : count;
    }

    int post(int what, int part) {
        if (!in(what, 0, 1) || !in(part, 0, 1)) {
            return -2;
        }
        int best = -6;
        int value = FAR_OFF;
        for (int p = 11; p >= 0 && !w.ones.isEmpty(); p--) {
            int[] d = from(p);
            int v = what == 0 ? w.ones.values().stream().mapToInt(o -> d[o.home]).sum()
                : w.ones.values().stream().mapToInt(o -> d[o.home]).max().getAsInt();
            if (v < FAR_OFF && v <= value) {
                best = p;
                value = v;
            }
        }
        return best == -6 ? -6 : part == 0 ? best : value;
    }

    int by(int p) {
        if (!place(p)) {
            return -1;
        }
        int count = 0;
        int[] d = from(p);
        for (int a = 0; a < 12; a++) {
            int[] e = from(a);
            for (int b = 0; b < 12; b++) {
                if (a != b && a != p && b != p && e[b] < FAR_OFF && d[a] + d[b] == e[b]) {
                    count++;
                }
            }
        }
        return count;
    }

    int seen(int p, int light) {
        if (!place(p)) {
            return -1;
        }
        if (!in(light, 0, 999)) {
            return -2;
        }
        if (w.sights.size() == 8) {
            return -4;
        }
        w.sights.add(new int[] {p, light});
        return w.sights.size();
    }

    int forget() {
        int was = w.sights.size();
        w.sights.clear();
        return was;
    }

    int whose() {
        int bits = 0;
        for (Map.Entry<Integer, One> e : w.ones.entrySet()) {
            One o = e.getValue();
            if (w.sights.stream().allMatch(s -> dist(o.at, s[0]) + s[1] == o.light)) {
                bits += 1 << e.getKey();
            }
        }
        return bits;
    }

    int ask(int what) {
        if (!in(what, 0, 1)) {
            return -2;
        }
        int fit = whose();
        int best = -6;
        int least = 7;
        for (int p = 0; p < 12 && fit != 0; p++) {
            Map<Integer, Integer> answers = new HashMap<>();
            for (Map.Entry<Integer, One> e : w.ones.entrySet()) {
                if ((fit & 1 << e.getKey()) != 0) {
                    answers.merge(Math.max(-1, e.getValue().light - dist(e.getValue().at, p)), 1, Integer::sum);
                }
            }
            int most = answers.values().stream().mapToInt(Integer::intValue).max().getAsInt();
            if (most < least) {
                least = most;
                best = p;
            }
        }
        return best == -6 ? -6 : what == 0 ? best : least;
    }

    long chance(int n, int t, int what, int part) {
        if (!w.ones.containsKey(n)) {
            return LanternSteps.GONE - 1;
        }
        if (!in(t, 0, 10) || !in(what, 0, 1) || !in(part, 0, 1)) {
            return LanternSteps.GONE - 2;
        }
        One o = w.ones.get(n);
        List<Integer> way = path(o.at, o.home);
        if (w.fog || way == null) {
            return LanternSteps.GONE - 3;
        }
        Map<Integer, BigInteger> cases = new TreeMap<>();
        cases.put(0, BigInteger.ONE);
        BigInteger lower = BigInteger.ONE;
        for (int c : along(o.at, way)) {
            Map<Integer, BigInteger> next = new TreeMap<>();
            cases.forEach((cost, n1) -> {
                next.merge(cost + c, n1.multiply(BigInteger.valueOf(10 - t)), BigInteger::add);
                next.merge(cost + 2 * c, n1.multiply(BigInteger.valueOf(t)), BigInteger::add);
            });
            cases = next;
            lower = lower.multiply(BigInteger.TEN);
        }
        BigInteger upper = BigInteger.ZERO;
        for (Map.Entry<Integer, BigInteger> e : cases.entrySet()) {
            if (what == 1) {
                upper = upper.add(e.getValue().multiply(BigInteger.valueOf(e.getKey())));
            } else if (e.getKey() <= o.light) {
                upper = upper.add(e.getValue());
            }
        }
        BigInteger shared = upper.gcd(lower);
        return (part == 0 ? upper : lower).divide(shared).longValueExact();
    }

    int year(int seed, int m, int what) {
        if (!in(seed, 0, 9999) || !in(m, 1, 99) || !in(what, 0, 2)) {
            return -2;
        }
        World v = w.copy();
        long x = seed;
        int cost = 0;
        int often = 0;
        for (int i = 0; i < m; i++) {
            x = (75 * x + 74) % 65537;
            if (x % 17 == 0) {
                v.fog = !v.fog;
            } else if (v.walkReason((int) (x % 6), (int) (x / 6 % 12)) == 0) {
                cost += v.walk((int) (x % 6), (int) (x / 6 % 12));
                often++;
            }
        }
        return what == 0 ? cost : what == 2 ? often : (int) v.ones.values().stream().filter(o -> o.at == o.home).count();
    }

    int image(int k) {
        if (!in(k, 0, 1)) {
            return -2;
        }
        images[k] = w.copy();
        return 1;
    }

    int restore(int k) {
        if (!in(k, 0, 1)) {
            return -2;
        }
        if (images[k] == null) {
            return -3;
        }
        w = images[k].copy();
        return 1;
    }

    int told(int what) {
        switch (what) {
            case 0: return pad.length();
            case 1: return w.ones.keySet().stream().mapToInt(k -> 1 << k).sum();
            case 2: return w.fog ? 1 : 0;
            case 3: return w.sights.size();
            default: break;
        }
        for (Map.Entry<Integer, One> e : w.ones.entrySet()) {
            One o = e.getValue();
            int[] row = {o.at, o.home, o.light, w.load.getOrDefault(e.getKey(), -6)};
            for (int i = 0; i < 4; i++) {
                if (what == 10 * (1 + e.getKey()) + i) {
                    return row[i];
                }
            }
        }
        for (int p = 0; p < 12; p++) {
            for (int q = 0; q < 12; q++) {
                int key = World.key(p, q);
                if (what == 100 + 12 * p + q) {
                    return w.steps.containsKey(key) ? 2 * w.steps.get(key) + (w.wet.get(key) ? 1 : 0) : 0;
                }
            }
        }
        return -2;
    }
}
