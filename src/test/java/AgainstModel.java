import java.util.NoSuchElementException;
import java.util.Random;

/** Runs of calls by fixed seeds, each call made of RunWorth and of Model: the answers must be the same. */
public final class AgainstModel {
    private static final int RUNS = 500;
    /** Of 512 some are left for the last thing done. */
    private static final int CALLS = 440;
    private static final String[] KEYS = {"single", "double", "fly", "steal", "tire"};
    private static final int[] LEAST = {1, 2, 0, 0, 1};
    private static final int[] MOST = {2, 3, 1, 20, 99};
    private static final String[] NAMES = {"ann", "bo", "cy", "dee", "eve", "flo", "gus", "hal", "ivy", "jo", "kit", "abcdef"};

    private static int wrong;

    private final Random random;
    private final RunWorth real = new RunWorth();
    private final Model model = new Model();
    private final StringBuilder told = new StringBuilder();
    private int calls;

    private AgainstModel(long seed) {
        random = new Random(seed);
    }

    public static void main(String[] args) {
        int runs = args.length > 0 ? Integer.parseInt(args[0]) : RUNS;
        for (int seed = 0; seed < runs; seed++) {
            new AgainstModel(seed).go(seed);
            if (wrong > 5) {
                break;
            }
        }
        System.out.println(wrong == 0 ? runs + " runs are as the model has them" : wrong + " answers are wrong");
        if (wrong != 0) {
            System.exit(1);
        }
    }

    private void go(int seed) {
        int before = wrong;
        if (random.nextInt(4) > 0) {
            feedAll(goodText());
        }
        while (calls < CALLS && wrong == before) {
            oneCall();
            same("trouble()", real.trouble(), model.trouble());
            switch (random.nextInt(4)) {
                case 0: same("where()", real.where(), model.where()); break;
                case 1: same("fault()", real.fault(), model.fault()); break;
                case 2: same("size()", real.size(), model.size()); break;
                default: break;
            }
        }
        if (wrong != before) {
            System.out.println("run " + seed + " came to it by .." + told.substring(Math.max(0, told.length() - 600)));
        }
    }

    private void same(String call, long got, long want) {
        calls++;
        if (got != want) {
            wrong++;
            System.out.println(call + " answered " + got + ", the model says " + want);
        }
    }

    private void held(String call, long got, long want) {
        told.append(' ').append(call).append('=').append(want);
        same(call, got, want);
    }

    // ---- numbers

    private int in(int least, int most) {
        return least + random.nextInt(most - least + 1);
    }

    /** Mostly within the bounds, now and then beyond them. */
    private int near(int least, int most) {
        switch (random.nextInt(40)) {
            case 0: return least - 1;
            case 1: return most + 1;
            case 2: return random.nextBoolean() ? Integer.MIN_VALUE : Integer.MAX_VALUE;
            default: return in(least, most);
        }
    }

    private int batters() {
        return Math.max(1, model.batters()) - 1;
    }

    // ---- texts

    private String goodText() {
        StringBuilder s = new StringBuilder();
        int batters = random.nextInt(3) == 0 ? in(1, 2) : in(1, 9);
        int from = random.nextInt(NAMES.length);
        boolean[] told = new boolean[5];
        for (int b = 0; b < batters; b++) {
            while (random.nextInt(4) == 0) {
                int what = random.nextInt(5);
                if (!told[what]) {
                    told[what] = true;
                    int most = what == 4 && random.nextBoolean() ? 6 : MOST[what];
                    s.append(KEYS[what]).append(blanks(0)).append(in(LEAST[what], most)).append(';').append(blanks(0));
                }
            }
            s.append("batter").append(blanks(1)).append(NAMES[(from + b) % NAMES.length]).append(blanks(0));
            int[] chances = new int[6];
            int kinds = in(1, 6);
            for (int i = 0; i < 20; i++) {
                chances[random.nextInt(3) == 0 ? 0 : random.nextInt(kinds)]++;
            }
            for (int e = 0; e < 6; e++) {
                s.append(e == 0 ? "" : " ").append(chances[e]);
            }
            if (b + 1 < batters) {
                s.append(blanks(0)).append(';').append(blanks(0));
            }
        }
        return s.toString();
    }

    private String blanks(int least) {
        return " ".repeat(random.nextInt(5) == 0 ? in(least, 2) : least);
    }

    private String spoiled(String text) {
        StringBuilder s = new StringBuilder(text);
        for (int i = in(1, 2); i > 0 && s.length() > 0; i--) {
            int at = random.nextInt(s.length());
            switch (random.nextInt(7)) {
                case 0: s.setCharAt(at, (char) random.nextInt(256)); break;
                case 1: s.deleteCharAt(at); break;
                case 2: s.insert(at, "abcz019 ;;".charAt(random.nextInt(10))); break;
                case 3: s.setLength(at); break;
                case 4: s.insert(at, ";batter " + NAMES[random.nextInt(NAMES.length)] + " 20 0 0 0 0 0"); break;
                case 5: s.insert(at, ";" + KEYS[random.nextInt(5)] + in(0, 30) + ";"); break;
                default: s.append(";batter ").append(NAMES[random.nextInt(NAMES.length)]).append(" 5 5 5 5 0 0"); break;
            }
        }
        return s.toString();
    }

    private void feedAll(String text) {
        String s = text.length() > 500 ? text.substring(0, 500) : text;
        int[] five = new int[5];
        for (int from = 0; from < s.length(); from += 20) {
            for (int i = 0; i < 5; i++) {
                five[i] = 0;
                for (int j = 0; j < 4; j++) {
                    int at = from + 4 * i + j;
                    five[i] = five[i] << 8 | (at < s.length() ? s.charAt(at) : 32);
                }
            }
            feed(five);
        }
        text(random.nextInt(12) == 0 ? near(0, model.size()) : Math.min(s.length(), model.size()));
    }

    private void feed(int[] f) {
        held("feed", real.feed(f[0], f[1], f[2], f[3], f[4]), model.feed(f[0], f[1], f[2], f[3], f[4]));
    }

    private void text(int n) {
        held("text(" + n + ")", real.text(n), model.text(n));
    }

    private void named() {
        String s = " ".repeat(in(0, 2)) + NAMES[random.nextInt(NAMES.length)] + " ".repeat(in(0, 2));
        if (random.nextInt(6) == 0) {
            s = spoiled(s);
        }
        s = (s + " ".repeat(20)).substring(0, 20);
        int[] five = new int[5];
        for (int i = 0; i < 20; i++) {
            five[i / 4] = five[i / 4] << 8 | s.charAt(i);
        }
        if (model.size() > 0) {
            text(0);
        }
        feed(five);
        namedBy(near(0, 20));
        namedBy(8);
    }

    private void namedBy(int n) {
        long got;
        long want;
        try {
            got = real.named(n);
        } catch (NoSuchElementException none) {
            got = -99;
        }
        try {
            want = model.named(n);
        } catch (NoSuchElementException none) {
            want = -99;
        }
        held("named(" + n + ")", got, want);
    }

    // ---- calls

    private void oneCall() {
        switch (random.nextInt(10)) {
            case 0: tell(); break;
            case 1: case 2: ahead(); break;
            case 3: order(); break;
            case 4: case 5: game(); break;
            default: act(); break;
        }
        if (random.nextInt(60) == 0) {
            feedAll(random.nextBoolean() ? goodText() : spoiled(goodText()));
        }
        if (random.nextInt(100) == 0) {
            named();
        }
    }

    private void tell() {
        int b = near(0, batters());
        int what = near(0, 8);
        int e = near(0, 8);
        int f = random.nextBoolean() ? near(0, 999) : near(0, 40);
        int bases = near(0, 7);
        int outs = near(0, 2);
        switch (random.nextInt(8)) {
            case 0: held("about(" + what + ")", real.about(what), model.about(what)); break;
            case 1: what = near(0, 4); held("rule(" + what + ")", real.rule(what), model.rule(what)); break;
            case 2: held("batter(" + b + "," + what + ")", real.batter(b, what), model.batter(b, what)); break;
            case 3: held("place(" + b + ")", real.place(b), model.place(b)); break;
            case 4: held("coming(" + f + ")", real.coming(f), model.coming(f)); break;
            case 5: e = near(0, 5); held("chance(" + b + "," + e + "," + f + ")", real.chance(b, e, f), model.chance(b, e, f)); break;
            default: what = near(0, 2); held("after(" + bases + "," + outs + "," + e + "," + what + ")",
                real.after(bases, outs, e, what), model.after(bases, outs, e, what)); break;
        }
    }

    private void ahead() {
        int bases = near(0, 7);
        int outs = near(0, 2);
        int k = near(1, 5);
        int what = near(0, 1);
        int how = near(0, 2);
        String by = "(" + bases + "," + outs + "," + k;
        switch (random.nextInt(7)) {
            case 0: held("plain" + by + "," + what + ")", real.plain(bases, outs, k, what), model.plain(bases, outs, k, what)); break;
            case 1: held("any" + by + "," + what + ")", real.any(bases, outs, k, what), model.any(bases, outs, k, what)); break;
            case 2: held("wise" + by + "," + what + ")", real.wise(bases, outs, k, what), model.wise(bases, outs, k, what)); break;
            case 3: held("choice" + by + ")", real.choice(bases, outs, k), model.choice(bases, outs, k)); break;
            case 4: held("chosen" + by + "," + how + "," + what + ")",
                real.chosen(bases, outs, k, how, what), model.chosen(bases, outs, k, how, what)); break;
            case 5: held("breaksEven" + by + ")", real.breaksEven(bases, outs, k), model.breaksEven(bases, outs, k)); break;
            default: held("table" + by + "," + what + ")", real.table(bases, outs, k, what), model.table(bases, outs, k, what)); break;
        }
    }

    private void order() {
        int k = near(1, 5);
        int few = near(1, 3);
        int what = near(0, 1);
        int i = near(0, batters());
        int j = near(0, batters());
        switch (random.nextInt(6)) {
            case 0: held("worth(" + k + "," + what + ")", real.worth(k, what), model.worth(k, what)); break;
            case 1: held("best(" + few + "," + what + ")", real.best(few, what), model.best(few, what)); break;
            case 2: held("bestAt(" + few + "," + i + ")", real.bestAt(few, i), model.bestAt(few, i)); break;
            default: held("exchanged(" + i + "," + j + "," + k + ")", real.exchanged(i, j, k), model.exchanged(i, j, k)); break;
        }
    }

    private int seed() {
        return near(1, 2147483646);
    }

    private void game() {
        int i = near(0, Math.max(1, model.rows()) - 1);
        int b = near(0, batters());
        int k = near(1, 5);
        int what = near(0, 1);
        switch (random.nextInt(6)) {
            case 0: case 1: what = near(0, 5); held("log(" + i + "," + what + ")", real.log(i, what), model.log(i, what)); break;
            case 2: held("added(" + i + "," + k + "," + what + ")", real.added(i, k, what), model.added(i, k, what)); break;
            case 3: held("credit(" + b + "," + k + "," + what + ")", real.credit(b, k, what), model.credit(b, k, what)); break;
            case 4: held("all(" + k + "," + what + ")", real.all(k, what), model.all(k, what)); break;
            default:
                int seed = seed();
                int n = near(1, 9);
                boolean wise = random.nextBoolean();
                what = near(0, 2);
                held("innings(" + seed + "," + n + "," + wise + "," + what + ")",
                    real.innings(seed, n, wise, what), model.innings(seed, n, wise, what));
                break;
        }
    }

    private void act() {
        int i = near(0, batters());
        int j = near(0, batters());
        switch (random.nextInt(40)) {
            case 0: held("relieve()", real.relieve(), model.relieve()); break;
            case 1: if (random.nextInt(3) == 0) { held("begin()", real.begin(), model.begin()); } break;
            case 2: case 3: held("swap(" + i + "," + j + ")", real.swap(i, j), model.swap(i, j)); break;
            case 4: int few = near(1, 3); held("lay(" + few + ")", real.lay(few), model.lay(few)); break;
            case 5: int k = near(1, 3 + random.nextInt(3)); held("better(" + k + ")", real.better(k), model.better(k)); break;
            case 6: case 7: case 8: shift(i); break;
            case 9: case 10: become(); break;
            case 11: case 12: case 13: case 14: case 15: case 16: held("undo()", real.undo(), model.undo()); break;
            case 17: case 18: case 19: case 20: play(); break;
            default: int e = near(0, 8); held("event(" + e + ")", real.event(e), model.event(e)); break;
        }
    }

    private void shift(int b) {
        int from = near(0, 5);
        int to = near(0, 5);
        int n = random.nextBoolean() ? near(1, 3) : near(1, 20);
        held("shift(" + b + "," + from + "," + to + "," + n + ")", real.shift(b, from, to, n), model.shift(b, from, to, n));
    }

    private void become() {
        int what = random.nextInt(5);
        int v = near(LEAST[what], what == 4 && random.nextBoolean() ? 5 : MOST[what]);
        what = random.nextInt(20) == 0 ? near(0, 4) : what;
        held("become(" + what + "," + v + ")", real.become(what, v), model.become(what, v));
    }

    private void play() {
        int seed = seed();
        int n = random.nextBoolean() ? near(1, 4) : near(1, 20);
        boolean wise = random.nextBoolean();
        held("play(" + seed + "," + n + "," + wise + ")", real.play(seed, n, wise), model.play(seed, n, wise));
    }
}
