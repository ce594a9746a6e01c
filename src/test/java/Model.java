import java.util.ArrayDeque;
import java.util.ArrayList;
import java.util.HashMap;
import java.util.HashSet;
import java.util.List;
import java.util.Map;
import java.util.NoSuchElementException;
import java.util.Set;

/**
 * The document once more, slowly and with the whole library: lists, maps, fractions of BigIntegers,
 * runners one by one. It shares nothing with RunWorth, so that the two can be held against each other.
 */
final class Model {
    private static final class Refusal extends RuntimeException {
        final int trouble;

        Refusal(int trouble) {
            super(null, null, false, false);
            this.trouble = trouble;
        }
    }

    private static final List<String> KEYS = List.of("single", "double", "fly", "steal", "tire", "batter");
    private static final int[] LEAST = {1, 2, 0, 0, 1};
    private static final int[] MOST = {2, 3, 1, 20, 99};

    private record Row(int who, int event, int runs, int inning, int bases, int outs, int basesBehind, int outsBehind) {
    }

    private record Step(int bases, int outs, int runs) {
    }

    private record Node(int bases, int outs, int left) {
    }

    private static final class World {
        List<String> names = new ArrayList<>();
        List<int[]> chances = new ArrayList<>();
        int[] rules = {1, 2, 0, 14, 30};
        List<Integer> order = new ArrayList<>();
        int inning = 1;
        int bases;
        int outs;
        int score;
        int next;
        int faced;
        List<Row> log = new ArrayList<>();

        World copy() {
            World w = new World();
            w.names = names;
            for (int[] c : chances) {
                w.chances.add(c.clone());
            }
            w.rules = rules.clone();
            w.order = new ArrayList<>(order);
            w.inning = inning;
            w.bases = bases;
            w.outs = outs;
            w.score = score;
            w.next = next;
            w.faced = faced;
            w.log = new ArrayList<>(log);
            return w;
        }
    }

    private final List<Byte> tape = new ArrayList<>();
    private World w;
    private final ArrayDeque<World> past = new ArrayDeque<>();
    private int trouble;
    private int fault;
    private int faultPlace;
    private long x;

    // ---- refusals

    private static void need(boolean so, int trouble) {
        if (!so) {
            throw new Refusal(trouble);
        }
    }

    private void needText() {
        need(w != null, 1);
    }

    private void needBatter(int b) {
        needText();
        need(0 <= b && b < w.chances.size(), 1);
    }

    private static void needIn(int v, int least, int most, int trouble) {
        need(least <= v && v <= most, trouble);
    }

    private static void needState(int bases, int outs, int k) {
        needIn(bases, 0, 7, 2);
        needIn(outs, 0, 2, 2);
        needIn(k, 1, 5, 2);
    }

    private interface Call {
        long go();
    }

    private long run(Call call) {
        try {
            long answer = call.go();
            trouble = 0;
            return answer;
        } catch (Refusal r) {
            trouble = r.trouble;
            return -1;
        }
    }

    private void act() {
        past.push(w.copy());
        if (past.size() > 10) {
            past.removeLast();
        }
    }

    /** These two tell the test where it stands without being calls: trouble() stays. */
    int batters() {
        return w == null ? 0 : w.chances.size();
    }

    int rows() {
        return w == null ? 0 : w.log.size();
    }

    // ---- texts

    int feed(int a, int b, int c, int d, int e) {
        if (tape.size() + 20 > 500) {
            return -1;
        }
        for (int v : new int[] {a, b, c, d, e}) {
            tape.add((byte) (v >>> 24));
            tape.add((byte) (v >>> 16));
            tape.add((byte) (v >>> 8));
            tape.add((byte) v);
        }
        return tape.size();
    }

    private String bytes(int n) {
        StringBuilder s = new StringBuilder();
        for (int i = 0; i < n; i++) {
            s.append((char) (tape.get(i) & 255));
        }
        return s.toString();
    }

    private static final class Bad extends RuntimeException {
        final int fault;
        final int place;

        Bad(int fault, int place) {
            super(null, null, false, false);
            this.fault = fault;
            this.place = place;
        }
    }

    private record Token(char kind, String text, int place) {
    }

    private static List<Token> tokens(String s) {
        List<Token> all = new ArrayList<>();
        int i = 0;
        while (i < s.length()) {
            char c = s.charAt(i);
            int from = i;
            if (c == ' ') {
                i++;
            } else if (c == ';') {
                i++;
                all.add(new Token(';', ";", from));
            } else if (c >= 'a' && c <= 'z') {
                while (i < s.length() && s.charAt(i) >= 'a' && s.charAt(i) <= 'z') {
                    i++;
                }
                all.add(new Token(i - from > 6 ? '?' : 'w', s.substring(from, i), from));
            } else if (c >= '0' && c <= '9') {
                while (i < s.length() && s.charAt(i) >= '0' && s.charAt(i) <= '9') {
                    i++;
                }
                all.add(new Token(i - from > 2 ? '?' : 'n', s.substring(from, i), from));
            } else {
                i++;
                all.add(new Token('?', "", from));
            }
        }
        all.add(new Token('$', "", s.length()));
        return all;
    }

    /** A machine that eats one token after the other. */
    private static World read(String s) {
        World r = new World();
        Set<String> told = new HashSet<>();
        String mode = "line";
        String key = "";
        int[] chances = null;
        int at = 0;
        for (Token t : tokens(s)) {
            switch (mode) {
                case "line":
                    if (t.kind != 'w' || !KEYS.contains(t.text)) {
                        throw new Bad(1, t.place);
                    }
                    key = t.text;
                    if (key.equals("batter")) {
                        if (r.chances.size() == 9) {
                            throw new Bad(4, t.place);
                        }
                        mode = "name";
                    } else {
                        if (!told.add(key)) {
                            throw new Bad(3, t.place);
                        }
                        mode = "value";
                    }
                    break;
                case "value":
                    if (t.kind != 'n') {
                        throw new Bad(1, t.place);
                    }
                    int what = KEYS.indexOf(key);
                    int v = Integer.parseInt(t.text);
                    if (v < LEAST[what] || v > MOST[what]) {
                        throw new Bad(2, t.place);
                    }
                    r.rules[what] = v;
                    mode = "end";
                    break;
                case "name":
                    if (t.kind != 'w' || KEYS.contains(t.text)) {
                        throw new Bad(1, t.place);
                    }
                    if (r.names.contains(t.text)) {
                        throw new Bad(3, t.place);
                    }
                    r.names.add(t.text);
                    chances = new int[6];
                    at = 0;
                    mode = "chances";
                    break;
                case "chances":
                    if (t.kind != 'n') {
                        throw new Bad(1, t.place);
                    }
                    chances[at] = Integer.parseInt(t.text);
                    if (chances[at] > 20) {
                        throw new Bad(2, t.place);
                    }
                    at++;
                    if (at == 6) {
                        int sum = 0;
                        for (int c : chances) {
                            sum += c;
                        }
                        if (sum != 20) {
                            throw new Bad(2, t.place);
                        }
                        r.order.add(r.chances.size());
                        r.chances.add(chances);
                        mode = "end";
                    }
                    break;
                default:
                    if (t.kind == '$') {
                        if (r.chances.isEmpty()) {
                            throw new Bad(5, t.place);
                        }
                    } else if (t.kind != ';') {
                        throw new Bad(1, t.place);
                    }
                    mode = "line";
                    break;
            }
        }
        return r;
    }

    int text(int n) {
        return (int) run(() -> {
            needIn(n, 0, tape.size(), 2);
            String s = bytes(n);
            tape.clear();
            try {
                World r = read(s);
                w = r;
                past.clear();
                fault = 0;
                return r.chances.size();
            } catch (Bad bad) {
                fault = bad.fault;
                faultPlace = bad.place;
                throw new Refusal(4);
            }
        });
    }

    int fault() {
        return fault;
    }

    int where() {
        return trouble == 4 ? faultPlace : -1;
    }

    // ---- what is told

    int about(int what) {
        return (int) run(() -> {
            needText();
            needIn(what, 0, 8, 1);
            return new int[] {w.chances.size(), w.inning, w.bases, w.outs, w.score, w.next, w.faced, w.log.size(),
                past.size()}[what];
        });
    }

    int rule(int what) {
        return (int) run(() -> {
            needText();
            needIn(what, 0, 4, 1);
            return w.rules[what];
        });
    }

    int batter(int b, int what) {
        return (int) run(() -> {
            needBatter(b);
            needIn(what, 0, 8, 1);
            if (what < 6) {
                return w.chances.get(b)[what];
            }
            if (what == 6) {
                return w.order.indexOf(b);
            }
            int sum = 0;
            for (Row r : w.log) {
                if (r.who == b) {
                    sum += what == 7 ? 1 : r.runs;
                }
            }
            return sum;
        });
    }

    private void needPlace(int i) {
        needText();
        needIn(i, 0, w.order.size() - 1, 1);
    }

    int place(int i) {
        return (int) run(() -> {
            needPlace(i);
            return w.order.get(i);
        });
    }

    private static int upcoming(World g, long i) {
        return g.order.get((int) ((g.order.indexOf(g.next) + i) % g.order.size()));
    }

    int coming(int i) {
        return (int) run(() -> {
            needText();
            need(i >= 0, 1);
            return upcoming(w, i);
        });
    }

    private static int chanceAt(World g, int b, int e, int f) {
        int[] c = g.chances.get(b);
        int tired = Math.min(c[0], f / g.rules[4]);
        return e == 0 ? c[0] - tired : e == 2 ? c[2] + tired : c[e];
    }

    int chance(int b, int e, int f) {
        return (int) run(() -> {
            needBatter(b);
            needIn(e, 0, 5, 1);
            needIn(f, 0, 999, 2);
            return chanceAt(w, b, e, f);
        });
    }

    /** Every runner is a number of bases that he has reached; null: it can't be. */
    private static Step step(World g, int bases, int outs, int e) {
        boolean[] on = {false, (bases & 1) != 0, (bases & 2) != 0, (bases & 4) != 0};
        List<Integer> reached = new ArrayList<>();
        int outsBehind = outs;
        switch (e) {
            case 0:
                outsBehind++;
                for (int base = 1; base <= 3; base++) {
                    if (on[base]) {
                        reached.add(base == 3 && g.rules[2] == 1 && outsBehind < 3 ? 4 : base);
                    }
                }
                break;
            case 1:
                reached.add(1);
                boolean pushed = true;
                for (int base = 1; base <= 3; base++) {
                    if (on[base]) {
                        reached.add(pushed ? base + 1 : base);
                    } else {
                        pushed = false;
                    }
                }
                break;
            case 2:
            case 3:
            case 4:
            case 5:
                int by = e == 2 ? g.rules[0] : e == 3 ? g.rules[1] : 3;
                for (int base = 1; base <= 3; base++) {
                    if (on[base]) {
                        reached.add(base + by);
                    }
                }
                reached.add(e - 1);
                break;
            case 6:
                if (bases == 0 || outs >= 2) {
                    return null;
                }
                outsBehind++;
                for (int base = 1; base <= 3; base++) {
                    if (on[base]) {
                        reached.add(base + 1);
                    }
                }
                break;
            default:
                if (!on[1] || on[2]) {
                    return null;
                }
                if (e == 7) {
                    reached.add(2);
                } else {
                    outsBehind++;
                }
                if (on[3]) {
                    reached.add(3);
                }
                break;
        }
        int runs = 0;
        int basesBehind = 0;
        for (int r : reached) {
            if (r > 3) {
                runs++;
            } else {
                basesBehind |= 1 << (r - 1);
            }
        }
        return new Step(outsBehind == 3 ? 0 : basesBehind, outsBehind, runs);
    }

    int after(int bases, int outs, int e, int what) {
        return (int) run(() -> {
            needText();
            needIn(e, 0, 8, 1);
            needIn(what, 0, 2, 1);
            needIn(bases, 0, 7, 2);
            needIn(outs, 0, 2, 2);
            Step s = step(w, bases, outs, e);
            need(s != null, 5);
            return what == 0 ? s.bases : what == 1 ? s.outs : s.runs;
        });
    }

    // ---- what is to come

    /** place: of him who is up in the order; likewise faced. */
    private static Frac plainMean(World g, int bases, int outs, int left, int place, int faced, boolean odds) {
        return plainMean(g, new Node(bases, outs, left), place, faced, odds, new HashMap<>());
    }

    private static Frac plainMean(World g, Node at, int place, int faced, boolean odds, Map<Node, Frac> known) {
        if (at.left == 0 || at.outs == 3) {
            return Frac.ZERO;
        }
        Frac had = known.get(at);
        if (had != null) {
            return had;
        }
        Frac sum = Frac.ZERO;
        int b = g.order.get(place % g.order.size());
        for (int e = 0; e < 6; e++) {
            Step s = step(g, at.bases, at.outs, e);
            Frac rest = plainMean(g, new Node(s.bases, s.outs, at.left - 1), place + 1, faced + 1, odds, known);
            Frac worth = !odds ? rest.plus(Frac.of(s.runs, 1)) : s.runs > 0 ? Frac.ONE : rest;
            sum = sum.plus(worth.times(Frac.of(chanceAt(g, b, e, faced), 20)));
        }
        known.put(at, sum);
        return sum;
    }

    /** Of HIT, BUNT, STEAL in a state; null: it can't be. */
    private static Frac[] ways(World g, Node at, int place, int faced, int steal, Map<Node, Frac> known) {
        Frac[] ways = new Frac[3];
        int b = g.order.get(place % g.order.size());
        ways[0] = Frac.ZERO;
        for (int e = 0; e < 6; e++) {
            Frac worth = behind(g, step(g, at.bases, at.outs, e), at, place, faced, steal, known);
            ways[0] = ways[0].plus(worth.times(Frac.of(chanceAt(g, b, e, faced), 20)));
        }
        Step bunt = step(g, at.bases, at.outs, 6);
        if (bunt != null) {
            ways[1] = behind(g, bunt, at, place, faced, steal, known);
        }
        Step stolen = step(g, at.bases, at.outs, 7);
        if (stolen != null) {
            Step caught = step(g, at.bases, at.outs, 8);
            Frac good = swing(g, new Node(stolen.bases, stolen.outs, at.left), place, faced, steal, known);
            Frac bad = caught.outs == 3 ? Frac.ZERO
                : swing(g, new Node(caught.bases, caught.outs, at.left), place, faced, steal, known);
            ways[2] = good.times(Frac.of(steal, 20)).plus(bad.times(Frac.of(20 - steal, 20)));
        }
        return ways;
    }

    private static Frac swing(World g, Node at, int place, int faced, int steal, Map<Node, Frac> known) {
        Frac[] ways = ways(g, at, place, faced, steal, known);
        return ways[bestOf(ways, 2)];
    }

    private static Frac behind(World g, Step s, Node at, int place, int faced, int steal, Map<Node, Frac> known) {
        Frac runs = Frac.of(s.runs, 1);
        if (s.outs == 3 || at.left == 1) {
            return runs;
        }
        Node then = new Node(s.bases, s.outs, at.left - 1);
        Frac had = known.get(then);
        if (had == null) {
            Frac[] ways = ways(g, then, place + 1, faced + 1, steal, known);
            had = ways[bestOf(ways, 3)];
            known.put(then, had);
        }
        return runs.plus(had);
    }

    private static int bestOf(Frac[] ways, int among) {
        int best = 0;
        for (int i = 1; i < among; i++) {
            if (ways[i] != null && ways[i].compareTo(ways[best]) > 0) {
                best = i;
            }
        }
        return best;
    }

    private static Frac[] waysNow(World g, int bases, int outs, int k, int steal) {
        return ways(g, new Node(bases, outs, k), g.order.indexOf(g.next), g.faced, steal, new HashMap<>());
    }

    long plain(int bases, int outs, int k, int what) {
        return run(() -> {
            needText();
            needIn(what, 0, 1, 1);
            needState(bases, outs, k);
            return plainMean(w, bases, outs, k, w.order.indexOf(w.next), w.faced, false).part(what);
        });
    }

    long any(int bases, int outs, int k, int what) {
        return run(() -> {
            needText();
            needIn(what, 0, 1, 1);
            needState(bases, outs, k);
            return plainMean(w, bases, outs, k, w.order.indexOf(w.next), w.faced, true).part(what);
        });
    }

    long wise(int bases, int outs, int k, int what) {
        return run(() -> {
            needText();
            needIn(what, 0, 1, 1);
            needState(bases, outs, k);
            Frac[] ways = waysNow(w, bases, outs, k, w.rules[3]);
            return ways[bestOf(ways, 3)].part(what);
        });
    }

    int choice(int bases, int outs, int k) {
        return (int) run(() -> {
            needText();
            needState(bases, outs, k);
            return bestOf(waysNow(w, bases, outs, k, w.rules[3]), 3);
        });
    }

    long chosen(int bases, int outs, int k, int how, int what) {
        return run(() -> {
            needText();
            needIn(how, 0, 2, 1);
            needIn(what, 0, 1, 1);
            needState(bases, outs, k);
            Frac way = waysNow(w, bases, outs, k, w.rules[3])[how];
            need(way != null, 5);
            return way.part(what);
        });
    }

    int breaksEven(int bases, int outs, int k) {
        return (int) run(() -> {
            needText();
            needState(bases, outs, k);
            need(step(w, bases, outs, 7) != null, 5);
            for (int steal = 0; steal <= 20; steal++) {
                if (bestOf(waysNow(w, bases, outs, k, steal), 3) == 2) {
                    return steal;
                }
            }
            return -2;
        });
    }

    private static Frac tableOf(World g, int bases, int outs, int left, Map<Node, Frac> known) {
        if (left == 0 || outs == 3) {
            return Frac.ZERO;
        }
        Node at = new Node(bases, outs, left);
        Frac had = known.get(at);
        if (had != null) {
            return had;
        }
        Frac sum = Frac.ZERO;
        for (int e = 0; e < 6; e++) {
            int together = 0;
            for (int[] c : g.chances) {
                together += c[e];
            }
            Step s = step(g, bases, outs, e);
            Frac worth = Frac.of(s.runs, 1).plus(tableOf(g, s.bases, s.outs, left - 1, known));
            sum = sum.plus(worth.times(Frac.of(together, 20L * g.chances.size())));
        }
        known.put(at, sum);
        return sum;
    }

    long table(int bases, int outs, int k, int what) {
        return run(() -> {
            needText();
            needIn(what, 0, 1, 1);
            needState(bases, outs, k);
            return tableOf(w, bases, outs, k, new HashMap<>()).part(what);
        });
    }

    // ---- the order

    private static Frac worthOf(World g, List<Integer> order, int k) {
        World h = g.copy();
        h.order = order;
        return plainMean(h, 0, 0, k, 0, 0, false);
    }

    long worth(int k, int what) {
        return run(() -> {
            needText();
            needIn(what, 0, 1, 1);
            needIn(k, 1, 5, 2);
            return worthOf(w, w.order, k).part(what);
        });
    }

    private Frac bestWorth;
    private List<Integer> bestOrder;

    /** Goes through the orders from the first on; of a long one only those are tried whose rest is laid by numbers. */
    private void tryOrders(List<Integer> begun, int k) {
        int count = w.order.size();
        if (begun.size() >= k && count > 5 || begun.size() == count) {
            List<Integer> order = new ArrayList<>(begun);
            for (int b = 0; b < count; b++) {
                if (!order.contains(b)) {
                    order.add(b);
                }
            }
            Frac worth = worthOf(w, order, k);
            if (bestWorth == null || worth.compareTo(bestWorth) > 0) {
                bestWorth = worth;
                bestOrder = order;
            }
            return;
        }
        for (int b = 0; b < count; b++) {
            if (!begun.contains(b)) {
                List<Integer> more = new ArrayList<>(begun);
                more.add(b);
                tryOrders(more, k);
            }
        }
    }

    private void seekBest(int k) {
        bestWorth = null;
        tryOrders(new ArrayList<>(), k);
    }

    long best(int k, int what) {
        return run(() -> {
            needText();
            needIn(what, 0, 1, 1);
            needIn(k, 1, 3, 2);
            seekBest(k);
            return bestWorth.part(what);
        });
    }

    int bestAt(int k, int i) {
        return (int) run(() -> {
            needPlace(i);
            needIn(k, 1, 3, 2);
            seekBest(k);
            return bestOrder.get(i);
        });
    }

    private static List<Integer> exchangedOrder(World g, int i, int j) {
        List<Integer> order = new ArrayList<>(g.order);
        order.set(i, g.order.get(j));
        order.set(j, g.order.get(i));
        return order;
    }

    int exchanged(int i, int j, int k) {
        return (int) run(() -> {
            needPlace(i);
            needPlace(j);
            needIn(k, 1, 5, 2);
            int c = worthOf(w, exchangedOrder(w, i, j), k).compareTo(worthOf(w, w.order, k));
            return c > 0 ? 1 : c == 0 ? 0 : -2;
        });
    }

    // ---- the game

    private Row rowAt(int i) {
        return w.log.get(w.log.size() - 1 - i);
    }

    private void needRow(int i) {
        needText();
        needIn(i, 0, w.log.size() - 1, 1);
    }

    int log(int i, int what) {
        return (int) run(() -> {
            needRow(i);
            needIn(what, 0, 5, 1);
            Row r = rowAt(i);
            return new int[] {r.who, r.event, r.runs, r.inning, r.bases, r.outs}[what];
        });
    }

    private Frac addedBy(Row r, int k) {
        Map<Node, Frac> known = new HashMap<>();
        return Frac.of(r.runs, 1).plus(tableOf(w, r.basesBehind, r.outsBehind, k, known))
            .less(tableOf(w, r.bases, r.outs, k, known));
    }

    long added(int i, int k, int what) {
        return run(() -> {
            needRow(i);
            needIn(what, 0, 1, 1);
            needIn(k, 1, 5, 2);
            return addedBy(rowAt(i), k).part(what);
        });
    }

    long credit(int b, int k, int what) {
        return run(() -> {
            needBatter(b);
            needIn(what, 0, 1, 1);
            needIn(k, 1, 5, 2);
            Frac sum = Frac.ZERO;
            for (Row r : w.log) {
                if (r.who == b) {
                    sum = sum.plus(addedBy(r, k));
                }
            }
            return sum.part(what);
        });
    }

    long all(int k, int what) {
        return run(() -> {
            needText();
            needIn(what, 0, 1, 1);
            needIn(k, 1, 5, 2);
            Frac sum = Frac.ZERO;
            for (Row r : w.log) {
                sum = sum.plus(addedBy(r, k));
            }
            return sum.part(what);
        });
    }

    private static int happen(World g, int e) {
        Step s = step(g, g.bases, g.outs, e);
        g.log.add(new Row(g.next, e, s.runs, g.inning, g.bases, g.outs, s.bases, s.outs));
        if (g.log.size() > 40) {
            g.log.remove(0);
        }
        g.score += s.runs;
        if (e <= 6) {
            g.next = upcoming(g, 1);
            g.faced++;
        }
        g.bases = s.bases;
        g.outs = s.outs;
        if (s.outs == 3) {
            g.outs = 0;
            g.inning++;
        }
        return s.runs;
    }

    private int draw20() {
        x = 16807 * x % 2147483647L;
        return (int) (x % 20);
    }

    private void playOne(World g, boolean wise) {
        int how = wise ? bestOf(waysNow(g, g.bases, g.outs, 2, g.rules[3]), 3) : 0;
        if (how == 2) {
            int inning = g.inning;
            happen(g, draw20() < g.rules[3] ? 7 : 8);
            if (g.inning > inning) {
                return;
            }
            how = bestOf(waysNow(g, g.bases, g.outs, 2, g.rules[3]), 2);
        }
        if (how == 1) {
            happen(g, 6);
            return;
        }
        int drawn = draw20();
        int sum = 0;
        for (int e = 0; e < 6; e++) {
            sum += chanceAt(g, g.next, e, g.faced);
            if (drawn < sum) {
                happen(g, e);
                return;
            }
        }
    }

    private static void beginAnew(World g) {
        g.inning = 1;
        g.bases = 0;
        g.outs = 0;
        g.score = 0;
        g.next = g.order.get(0);
        g.faced = 0;
        g.log.clear();
    }

    int innings(int seed, int n, boolean wise, int what) {
        return (int) run(() -> {
            needText();
            needIn(what, 0, 2, 1);
            needIn(seed, 1, 2147483646, 2);
            needIn(n, 1, 9, 2);
            World g = w.copy();
            beginAnew(g);
            x = seed;
            Map<Integer, Integer> runs = new HashMap<>();
            int up = 0;
            while (g.inning <= n && up < 100) {
                int inning = g.inning;
                int was = g.score;
                playOne(g, wise);
                runs.merge(inning, g.score - was, Integer::sum);
                up++;
            }
            int most = runs.values().stream().max(Integer::compare).get();
            return what == 0 ? g.score : what == 1 ? up : most;
        });
    }

    // ---- acts

    int event(int e) {
        return (int) run(() -> {
            needText();
            needIn(e, 0, 8, 1);
            need(step(w, w.bases, w.outs, e) != null, 5);
            act();
            return happen(w, e);
        });
    }

    int play(int seed, int n, boolean wise) {
        return (int) run(() -> {
            needText();
            needIn(seed, 1, 2147483646, 2);
            needIn(n, 1, 20, 2);
            act();
            x = seed;
            int was = w.score;
            for (int i = 0; i < n; i++) {
                playOne(w, wise);
            }
            return w.score - was;
        });
    }

    int relieve() {
        return (int) run(() -> {
            needText();
            act();
            int was = w.faced;
            w.faced = 0;
            return was;
        });
    }

    int begin() {
        return (int) run(() -> {
            needText();
            act();
            int was = w.score;
            beginAnew(w);
            return was;
        });
    }

    int swap(int i, int j) {
        return (int) run(() -> {
            needPlace(i);
            needPlace(j);
            need(i != j, 5);
            act();
            w.order = exchangedOrder(w, i, j);
            return w.order.get(i);
        });
    }

    int lay(int k) {
        return (int) run(() -> {
            needText();
            needIn(k, 1, 3, 2);
            act();
            seekBest(k);
            int others = 0;
            for (int i = 0; i < w.order.size(); i++) {
                if (!w.order.get(i).equals(bestOrder.get(i))) {
                    others++;
                }
            }
            w.order = new ArrayList<>(bestOrder);
            return others;
        });
    }

    int better(int k) {
        return (int) run(() -> {
            needText();
            needIn(k, 1, 5, 2);
            act();
            int times = 0;
            while (times < 60) {
                Frac most = worthOf(w, w.order, k);
                List<Integer> then = null;
                for (int i = 0; i < w.order.size(); i++) {
                    for (int j = i + 1; j < w.order.size(); j++) {
                        Frac worth = worthOf(w, exchangedOrder(w, i, j), k);
                        if (worth.compareTo(most) > 0) {
                            most = worth;
                            then = exchangedOrder(w, i, j);
                        }
                    }
                }
                if (then == null) {
                    break;
                }
                w.order = then;
                times++;
            }
            return times;
        });
    }

    int shift(int b, int from, int to, int n) {
        return (int) run(() -> {
            needBatter(b);
            needIn(from, 0, 5, 1);
            needIn(to, 0, 5, 1);
            needIn(n, 1, 20, 2);
            need(from != to, 5);
            need(w.chances.get(b)[from] >= n, 5);
            act();
            w.chances.get(b)[from] -= n;
            w.chances.get(b)[to] += n;
            return w.chances.get(b)[to];
        });
    }

    int become(int what, int v) {
        return (int) run(() -> {
            needText();
            needIn(what, 0, 4, 1);
            needIn(v, LEAST[what], MOST[what], 2);
            act();
            int was = w.rules[what];
            w.rules[what] = v;
            return was;
        });
    }

    int undo() {
        return (int) run(() -> {
            needText();
            need(!past.isEmpty(), 5);
            w = past.pop();
            return past.size();
        });
    }

    // ---- names

    int named(int n) {
        if (n >= 0 && n <= tape.size() && w != null) {
            String name = bytes(n).replaceAll("^ +", "").replaceAll(" +$", "");
            int b = w.names.indexOf(name);
            if (b >= 0) {
                return b;
            }
        }
        throw new NoSuchElementException();
    }

    int size() {
        return tape.size();
    }

    int trouble() {
        return trouble;
    }
}
