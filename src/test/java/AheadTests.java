/** Promises 13 to 19: plain, any, wise, choice, chosen, breaksEven, table. */
public final class AheadTests {
    private static final Check check = new Check("what is to come");
    /** He hits a homer or is out, each time with odds of one half. */
    private static final String HALF = "batter a 10 0 0 0 0 10";
    private static final String NEVER_AND_ALWAYS = "batter a 20 0 0 0 0 0;batter b 0 0 0 0 0 20";
    private static final String NEVER = "batter a 20 0 0 0 0 0";

    public static void main(String[] args) {
        plainOfOne();
        plainRound();
        plainTired();
        any();
        wiseBunts();
        wiseSteals();
        wiseTies();
        wiseByBatters();
        breaksEven();
        table();
        refusedBySix(new RunWorth(), 1);
        refusedNumbers();
        check.end();
    }

    private static void plain(RunWorth x, int bases, int outs, int k, long above, long below) {
        check.fraction("P13 plain(" + bases + "," + outs + "," + k + ")",
            x.plain(bases, outs, k, 0), x.plain(bases, outs, k, 1), above, below);
        check.due("P41", x.trouble(), 0);
    }

    private static void any(RunWorth x, int bases, int outs, int k, long above, long below) {
        check.fraction("P14 any(" + bases + "," + outs + "," + k + ")",
            x.any(bases, outs, k, 0), x.any(bases, outs, k, 1), above, below);
    }

    private static void wise(RunWorth x, int bases, int outs, int k, int choice, long above, long below) {
        String by = bases + "," + outs + "," + k + ")";
        check.fraction("P15 wise(" + by, x.wise(bases, outs, k, 0), x.wise(bases, outs, k, 1), above, below);
        check.due("P16 choice(" + by, x.choice(bases, outs, k), choice);
        check.fraction("P17 chosen(" + by, x.chosen(bases, outs, k, choice, 0), x.chosen(bases, outs, k, choice, 1), above, below);
    }

    private static void chosen(RunWorth x, int bases, int outs, int k, int how, long above, long below) {
        check.fraction("P17 chosen(" + bases + "," + outs + "," + k + "," + how + ")",
            x.chosen(bases, outs, k, how, 0), x.chosen(bases, outs, k, how, 1), above, below);
    }

    private static void plainOfOne() {
        RunWorth x = Check.with(HALF);
        plain(x, 0, 0, 1, 1, 2);
        plain(x, 0, 0, 2, 1, 1);
        plain(x, 0, 0, 3, 3, 2);
        plain(x, 0, 0, 4, 31, 16);
        plain(x, 0, 2, 3, 7, 8);
        plain(x, 7, 0, 1, 2, 1);
        plain(x, 5, 2, 1, 3, 2);
        x = Check.with("batter a 0 0 0 0 0 20");
        plain(x, 0, 2, 5, 5, 1);
        plain(x, 7, 2, 5, 8, 1);
        x = Check.with(NEVER);
        plain(x, 7, 0, 5, 0, 1);
        x.become(2, 1);
        plain(x, 7, 0, 5, 1, 1);
        plain(x, 4, 2, 5, 0, 1);
        x = Check.with("batter a 0 20 0 0 0 0");
        plain(x, 0, 0, 3, 0, 1);
        plain(x, 0, 0, 4, 1, 1);
        plain(x, 6, 0, 2, 1, 1);
        x = Check.with("batter a 0 0 20 0 0 0;single 2");
        plain(x, 0, 0, 4, 2, 1);
    }

    private static void plainRound() {
        RunWorth x = Check.with(NEVER_AND_ALWAYS);
        plain(x, 0, 0, 1, 0, 1);
        plain(x, 0, 0, 2, 1, 1);
        plain(x, 0, 0, 4, 2, 1);
        plain(x, 0, 1, 5, 1, 1);
        plain(x, 0, 2, 5, 0, 1);
        x.event(0);
        plain(x, 0, 0, 1, 1, 1);
        plain(x, 0, 2, 5, 1, 1);
        plain(x, 0, 1, 5, 2, 1);
        x.swap(0, 1);
        plain(x, 0, 0, 1, 1, 1);
        x.begin();
        plain(x, 0, 0, 2, 1, 1);
        plain(x, 0, 0, 1, 1, 1);
    }

    private static void plainTired() {
        RunWorth x = Check.with(NEVER + ";tire 2");
        plain(x, 4, 0, 1, 0, 1);
        plain(x, 4, 0, 2, 0, 1);
        plain(x, 4, 0, 3, 1, 20);
        x.event(0);
        plain(x, 4, 0, 1, 0, 1);
        plain(x, 4, 0, 2, 1, 20);
        x.event(0);
        plain(x, 4, 0, 1, 1, 20);
        x.relieve();
        plain(x, 4, 0, 2, 0, 1);
    }

    private static void any() {
        RunWorth x = Check.with(HALF);
        any(x, 0, 0, 1, 1, 2);
        any(x, 0, 0, 2, 3, 4);
        any(x, 0, 0, 5, 7, 8);
        any(x, 0, 1, 5, 3, 4);
        any(x, 7, 2, 5, 1, 2);
        plain(x, 0, 0, 1, 1, 2);
        plain(x, 7, 0, 1, 2, 1);
        x = Check.with(NEVER_AND_ALWAYS);
        any(x, 0, 0, 1, 0, 1);
        any(x, 0, 0, 2, 1, 1);
        any(x, 0, 0, 5, 1, 1);
        any(x, 0, 2, 5, 0, 1);
        x.event(0);
        any(x, 0, 2, 1, 1, 1);
        x = Check.with(NEVER + ";tire 1");
        any(x, 4, 0, 1, 0, 1);
        any(x, 4, 0, 2, 1, 20);
        // of 19 out again, then a single of 2: 1/20 + 19/20 times 2/20
        any(x, 4, 0, 3, 29, 200);
    }

    private static void wiseBunts() {
        RunWorth x = Check.with(NEVER);
        wise(x, 4, 0, 1, 1, 1, 1);
        wise(x, 4, 1, 1, 1, 1, 1);
        wise(x, 4, 2, 1, 0, 0, 1);
        wise(x, 6, 0, 2, 1, 2, 1);
        wise(x, 6, 1, 2, 1, 1, 1);
        wise(x, 0, 0, 5, 0, 0, 1);
        chosen(x, 4, 0, 1, 0, 0, 1);
        chosen(x, 4, 0, 2, 0, 1, 1);
        chosen(x, 4, 1, 2, 0, 0, 1);
        plain(x, 4, 0, 5, 0, 1);
    }

    private static void wiseSteals() {
        RunWorth x = Check.with(NEVER);
        wise(x, 1, 0, 1, 0, 0, 1);
        wise(x, 1, 0, 2, 2, 7, 10);
        wise(x, 1, 0, 3, 2, 7, 10);
        chosen(x, 1, 0, 2, 0, 0, 1);
        chosen(x, 1, 0, 2, 1, 0, 1);
        x.become(3, 20);
        wise(x, 1, 0, 2, 2, 1, 1);
        x.become(3, 0);
        wise(x, 1, 0, 2, 0, 0, 1);
        // the third OUT by a CAUGHT: nobody comes up any more, though he'd hit a homer
        x = Check.with("batter a 0 0 0 0 0 20");
        chosen(x, 1, 2, 5, 2, 21, 5);
        chosen(x, 1, 1, 5, 2, 57, 10);
        wise(x, 1, 2, 5, 0, 6, 1);
    }

    private static void wiseTies() {
        RunWorth x = Check.with("batter a 0 0 20 0 0 0");
        // a single brings him home, and so does a bunt: HIT
        wise(x, 4, 0, 1, 0, 1, 1);
        chosen(x, 4, 0, 1, 1, 1, 1);
        // a runner on first is stolen to second for nothing: HIT, not STEAL
        x.become(3, 20);
        wise(x, 5, 2, 1, 0, 1, 1);
        chosen(x, 5, 2, 1, 2, 1, 1);
        // BUNT brings one run and STEAL the same by a BUNT behind it: BUNT
        x = Check.with(NEVER + ";steal 20");
        wise(x, 5, 0, 1, 1, 1, 1);
        chosen(x, 5, 0, 1, 2, 1, 1);
        chosen(x, 5, 0, 1, 0, 0, 1);
    }

    private static void wiseByBatters() {
        // a never hits, b always does: ahead of b HIT is better, ahead of a BUNT
        RunWorth x = Check.with(NEVER_AND_ALWAYS);
        wise(x, 2, 0, 2, 0, 2, 1);
        wise(x, 4, 0, 2, 0, 2, 1);
        wise(x, 4, 2, 2, 0, 0, 1);
        x.event(0);
        wise(x, 4, 0, 1, 0, 2, 1);
        wise(x, 4, 2, 1, 0, 2, 1);
        x = Check.with(NEVER_AND_ALWAYS + ";batter c 20 0 0 0 0 0");
        wise(x, 0, 0, 2, 0, 1, 1);
        wise(x, 0, 0, 5, 0, 1, 1);
        x = Check.with(HALF);
        wise(x, 0, 0, 2, 0, 1, 1);
        wise(x, 0, 0, 4, 0, 31, 16);
        // a walks, b steals and bunts, c bunts
        x = Check.with("batter a 0 20 0 0 0 0;batter b 20 0 0 0 0 0;batter c 20 0 0 0 0 0");
        wise(x, 0, 0, 3, 0, 7, 10);
        // he who comes behind him has one SINGLE more
        x = Check.with("tire 1;single 2;batter a 10 0 0 10 0 0");
        wise(x, 0, 0, 2, 0, 11, 40);
        x.event(0);
        // 1/20 on first, from there by STEAL 14/20 times 12/20; 10/20 on second, from there 12/20
        wise(x, 0, 0, 2, 0, 321, 1000);
        x = Check.with(NEVER + ";tire 2");
        x.event(0);
        x.event(0);
        // at FACED 2 he has one SINGLE in twenty
        wise(x, 4, 2, 1, 0, 1, 20);
        chosen(x, 4, 0, 1, 0, 1, 20);
        wise(x, 4, 0, 1, 1, 1, 1);
    }

    private static void breaksEven() {
        RunWorth x = Check.with(NEVER);
        check.due("P18 breaksEven(1,0,2)", x.breaksEven(1, 0, 2), 1);
        check.due("P18 breaksEven(1,0,1)", x.breaksEven(1, 0, 1), -2);
        check.due("P18 breaksEven(1,2,5)", x.breaksEven(1, 2, 5), -2);
        check.due("P41", x.trouble(), 0);
        check.due("P18 steal stays", x.rule(3), 14);
        x = Check.with("batter a 10 0 10 0 0 0");
        // k 1: nothing comes of a runner on first or second
        check.due("P18 breaksEven(1,2,1)", x.breaksEven(1, 2, 1), -2);
        // k 2, two outs: HIT is worth 0; any steal more
        check.due("P18 breaksEven(1,2,2)", x.breaksEven(1, 2, 2), 1);
        // third, too: HIT 1/2 + 1/2 * 0; STEAL p * (1/2 + 1/2 * 1/2): more from 14 on
        check.due("P18 breaksEven(5,2,2)", x.breaksEven(5, 2, 2), 14);
        x = Check.with(NEVER + ";single 2;steal 0");
        check.due("P18 breaksEven(1,0,2) whatever steal is", x.breaksEven(1, 0, 2), 1);
        for (int bases : new int[] {0, 2, 3, 4, 6, 7}) {
            check.refused("P18 breaksEven(" + bases + ",0,2)", x, x.breaksEven(bases, 0, 2), 5);
        }
    }

    private static void table(RunWorth x, int bases, int outs, int k, long above, long below) {
        check.fraction("P19 table(" + bases + "," + outs + "," + k + ")",
            x.table(bases, outs, k, 0), x.table(bases, outs, k, 1), above, below);
    }

    private static void table() {
        RunWorth x = Check.with(NEVER_AND_ALWAYS + ";tire 1");
        for (int i = 0; i < 3; i++) {
            table(x, 0, 0, 1, 1, 2);
            table(x, 0, 0, 4, 31, 16);
            table(x, 0, 2, 3, 7, 8);
            table(x, 7, 0, 1, 2, 1);
            x.event(0);
        }
        x = Check.with("batter a 20 0 0 0 0 0;batter b 20 0 0 0 0 0;batter c 19 0 0 0 0 1");
        table(x, 0, 0, 1, 1, 60);
        table(x, 0, 0, 2, 1, 30);
        x.shift(2, 0, 5, 1);
        table(x, 0, 0, 1, 1, 30);
    }

    /** All seven, with numbers that are wrong at once: what is told first. */
    private static void refusedBySix(RunWorth x, int trouble) {
        check.refused("plain", x, x.plain(8, 3, 6, 0), trouble);
        check.refused("any", x, x.any(8, 3, 6, 0), trouble);
        check.refused("wise", x, x.wise(8, 3, 6, 0), trouble);
        check.refused("choice", x, x.choice(8, 3, 6), trouble);
        check.refused("chosen", x, x.chosen(8, 3, 6, 1, 0), trouble);
        check.refused("breaksEven", x, x.breaksEven(8, 3, 6), trouble);
        check.refused("table", x, x.table(8, 3, 6, 0), trouble);
    }

    private static void refusedNumbers() {
        RunWorth x = Check.with(HALF);
        refusedBySix(x, 2);
        int[][] wrong = {{8, 0, 1}, {-1, 0, 1}, {0, 3, 1}, {0, -1, 1}, {0, 0, 0}, {0, 0, 6}};
        for (int[] w : wrong) {
            String by = "(" + w[0] + "," + w[1] + "," + w[2] + ")";
            check.refused("P13 plain" + by, x, x.plain(w[0], w[1], w[2], 0), 2);
            check.refused("P14 any" + by, x, x.any(w[0], w[1], w[2], 1), 2);
            check.refused("P15 wise" + by, x, x.wise(w[0], w[1], w[2], 0), 2);
            check.refused("P16 choice" + by, x, x.choice(w[0], w[1], w[2]), 2);
            check.refused("P17 chosen" + by, x, x.chosen(w[0], w[1], w[2], 2, 0), 2);
            check.refused("P18 breaksEven" + by, x, x.breaksEven(w[0], w[1], w[2]), 2);
            check.refused("P19 table" + by, x, x.table(w[0], w[1], w[2], 1), 2);
        }
        for (int what : new int[] {-1, 2, Integer.MAX_VALUE}) {
            check.refused("P13 plain, what " + what, x, x.plain(8, 0, 1, what), 1);
            check.refused("P14 any, what " + what, x, x.any(8, 0, 1, what), 1);
            check.refused("P15 wise, what " + what, x, x.wise(8, 0, 1, what), 1);
            check.refused("P17 chosen, what " + what, x, x.chosen(8, 0, 1, 0, what), 1);
            check.refused("P19 table, what " + what, x, x.table(8, 0, 1, what), 1);
        }
        check.refused("P17 chosen, how 3", x, x.chosen(8, 0, 1, 3, 0), 1);
        check.refused("P17 chosen, how -1", x, x.chosen(1, 0, 1, -1, 0), 1);
        check.refused("P17 a bunt without a runner", x, x.chosen(0, 0, 1, 1, 0), 5);
        check.refused("P17 a bunt with two outs", x, x.chosen(7, 2, 1, 1, 0), 5);
        check.refused("P17 a steal without a runner", x, x.chosen(4, 0, 1, 2, 0), 5);
        check.refused("P17 a steal of a base that is taken", x, x.chosen(3, 0, 1, 2, 0), 5);
    }
}
