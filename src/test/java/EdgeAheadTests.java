/** Boundaries of PLAIN, ANY, WISE, TABLE and of promises 13 to 19: each method's remark tells the sentence. */
public final class EdgeAheadTests {
    private static final Check check = new Check("edges of what is to come");
    private static final Edges few = new Edges(check, Edges::few);
    private static final Edges rich = new Edges(check, Edges::rich);
    private static final Edges[] BOTH = {few, rich};
    private static final String NEVER = "batter a 20 0 0 0 0 0";
    private static final String ALWAYS = "batter a 0 0 0 0 0 20";
    private static final String HALF = "batter a 10 0 0 0 0 10";
    private static final int[] FAR = {Integer.MIN_VALUE, Integer.MAX_VALUE};

    /** One of the seven calls, with what 0 where there is one. */
    private interface Ahead {
        long of(RunWorth x, int bases, int outs, int k);
    }

    /** One of those that tell a fraction. */
    private interface Part {
        long of(RunWorth x, int what);
    }

    private static final String[] NAMES = {"plain", "any", "wise", "choice", "chosen", "breaksEven", "table"};
    private static final Ahead[] SEVEN = {
        (x, b, o, k) -> x.plain(b, o, k, 0), (x, b, o, k) -> x.any(b, o, k, 0), (x, b, o, k) -> x.wise(b, o, k, 0),
        (x, b, o, k) -> x.choice(b, o, k), (x, b, o, k) -> x.chosen(b, o, k, 2, 0), (x, b, o, k) -> x.breaksEven(b, o, k),
        (x, b, o, k) -> x.table(b, o, k, 0)
    };

    public static void main(String[] args) {
        basesFrom0To7();
        outsFrom0To2();
        batterAtMostFrom1To5();
        whatIsAboveOrBelow();
        howIsHitBuntSteal();
        toldFirst();
        chosenCanBe();
        breaksEvenCanBe();
        atMostKBatters();
        inThisInning();
        roundTheOrder();
        facedGoesOn();
        facedAsItIsNow();
        lowestTerms();
        anyIsNotHowMany();
        hitAheadOfBunt();
        hitAheadOfSteal();
        buntAheadOfSteal();
        stealEndsTheInning();
        behindAStealHitAheadOfBunt();
        leastSteal();
        stealAllAlong();
        tableOfAllTogether();
        check.end();
    }

    /** "BASES (bits: first 1, second 2, third 4)": 0 and 7 are, -1 and 8 are refused by 2. */
    private static void basesFrom0To7() {
        for (int c = 0; c < SEVEN.length; c++) {
            Ahead call = SEVEN[c];
            for (int bases : new int[] {-1, 8, 9, FAR[0], FAR[1]}) {
                for (Edges edges : BOTH) {
                    edges.refused(NAMES[c] + ", BASES " + bases, x -> call.of(x, bases, 0, 1), 2);
                }
            }
        }
        for (int bases = 0; bases < 8; bases++) {
            int b = bases;
            int[] home = {0, 1, 1, 2, 1, 2, 2, 3};
            RunWorth x = Check.with(ALWAYS);
            check.due("plain of " + b, x.plain(b, 0, 1, 0), home[b] + 1);
            check.due("wise of " + b, x.wise(b, 0, 1, 0), home[b] + 1);
            check.due("table of " + b, x.table(b, 0, 1, 0), home[b] + 1);
            check.due("any of " + b, x.any(b, 0, 1, 0), 1);
            check.due("choice of " + b, x.choice(b, 0, 1), 0);
            check.due("trouble()", x.trouble(), 0);
        }
    }

    /** "OUTS 0 .. 2": -1 and 3 are refused by 2. */
    private static void outsFrom0To2() {
        for (int c = 0; c < SEVEN.length; c++) {
            Ahead call = SEVEN[c];
            for (int outs : new int[] {-1, 3, 4, FAR[0], FAR[1]}) {
                for (Edges edges : BOTH) {
                    edges.refused(NAMES[c] + ", OUTS " + outs, x -> call.of(x, 1, outs, 1), 2);
                }
            }
            for (int outs = 0; outs < 3; outs++) {
                RunWorth x = Edges.few();
                call.of(x, 1, outs, 1);
                check.due(NAMES[c] + ", OUTS " + outs, x.trouble(), 0);
            }
        }
    }

    /** "by k (1 .. 5)": 0 and 6 are refused by 2. */
    private static void batterAtMostFrom1To5() {
        for (int c = 0; c < SEVEN.length; c++) {
            Ahead call = SEVEN[c];
            for (int k : new int[] {-1, 0, 6, 7, FAR[0], FAR[1]}) {
                for (Edges edges : BOTH) {
                    edges.refused(NAMES[c] + ", k " + k, x -> call.of(x, 1, 0, k), 2);
                }
            }
            for (int k = 1; k <= 5; k++) {
                RunWorth x = Edges.few();
                call.of(x, 1, 0, k);
                check.due(NAMES[c] + ", k " + k, x.trouble(), 0);
            }
        }
        RunWorth x = Check.with(ALWAYS);
        for (int k = 1; k <= 5; k++) {
            check.due("plain by " + k, x.plain(0, 2, k, 0), k);
            check.due("wise by " + k, x.wise(0, 2, k, 0), k);
            check.due("chosen by " + k, x.chosen(0, 2, k, 0, 0), k);
            check.due("table by " + k, x.table(0, 2, k, 0), k);
            check.due("any by " + k, x.any(0, 2, k, 0), 1);
        }
    }

    /** "above (what 0), below (1). NONE: 1 (no TEXT, what)": -1 and 2 are refused by 1. */
    private static void whatIsAboveOrBelow() {
        Part[] five = {
            (x, w) -> x.plain(1, 0, 2, w), (x, w) -> x.any(1, 0, 2, w), (x, w) -> x.wise(1, 0, 2, w),
            (x, w) -> x.chosen(1, 0, 2, 0, w), (x, w) -> x.table(1, 0, 2, w)
        };
        String[] names = {"plain", "any", "wise", "chosen", "table"};
        for (int c = 0; c < five.length; c++) {
            Part call = five[c];
            for (int what : new int[] {-1, 2, FAR[0], FAR[1]}) {
                for (Edges edges : BOTH) {
                    edges.refused(names[c] + ", what " + what, x -> call.of(x, what), 1);
                }
            }
            RunWorth x = Check.with(HALF);
            long above = call.of(x, 0);
            check.due("trouble()", x.trouble(), 0);
            long below = call.of(x, 1);
            check.due("trouble()", x.trouble(), 0);
            // 1/2 + 1/2 more by the second, and 1/2 for the runner, 1/4 by the second; but as odds 3/4
            check.due(names[c] + " above", above, c == 1 ? 3 : 7);
            check.due(names[c] + " below", below, 4);
        }
    }

    /** "HIT (how 0), BUNT (1), STEAL (2) is chosen .. NONE: 1 (.. how, what)": -1 and 3 are refused by 1. */
    private static void howIsHitBuntSteal() {
        for (int how : new int[] {-1, 3, FAR[0], FAR[1]}) {
            for (Edges edges : BOTH) {
                edges.refused("chosen, how " + how, x -> x.chosen(1, 0, 1, how, 0), 1);
                edges.refused("chosen, how " + how, x -> x.chosen(0, 2, 5, how, 1), 1);
            }
        }
        // a runner on first and third, a batter who is always out, 14 of 20
        RunWorth x = Check.with(NEVER);
        check.due("HIT", x.chosen(5, 0, 1, 0, 0), 0);
        check.due("BUNT", x.chosen(5, 0, 1, 1, 0), 1);
        check.due("STEAL", x.chosen(5, 0, 1, 2, 0), 1);
        check.due("STEAL with OUTS 1: 14/20", x.chosen(5, 1, 1, 2, 0), 7);
        check.due("STEAL with OUTS 1: 14/20", x.chosen(5, 1, 1, 2, 1), 10);
        check.due("trouble()", x.trouble(), 0);
    }

    /** "Of several the one that the call tells first": 1 ahead of 2 ahead of 5; without a TEXT 1. */
    private static void toldFirst() {
        few.refused("plain: what ahead of BASES", x -> x.plain(8, 0, 1, 2), 1);
        few.refused("any: what ahead of OUTS", x -> x.any(0, 3, 1, 2), 1);
        few.refused("wise: what ahead of k", x -> x.wise(0, 0, 6, 2), 1);
        few.refused("table: what ahead of k", x -> x.table(0, 0, 0, -1), 1);
        few.refused("chosen: what ahead of what can't be", x -> x.chosen(0, 0, 1, 1, 2), 1);
        few.refused("chosen: how ahead of BASES", x -> x.chosen(8, 0, 1, 3, 0), 1);
        few.refused("chosen: k ahead of what can't be", x -> x.chosen(0, 0, 6, 1, 0), 2);
        few.refused("chosen: BASES ahead of what can't be", x -> x.chosen(-1, 2, 1, 1, 0), 2);
        few.refused("breaksEven: k ahead of what can't be", x -> x.breaksEven(0, 0, 0), 2);
        few.refused("breaksEven: OUTS ahead of what can't be", x -> x.breaksEven(0, 3, 1), 2);
        Edges none = new Edges(check, Edges::empty);
        for (int c = 0; c < SEVEN.length; c++) {
            Ahead call = SEVEN[c];
            none.refused(NAMES[c] + " without a TEXT", x -> call.of(x, 1, 0, 1), 1);
            none.refused(NAMES[c] + " without a TEXT, by wrong numbers", x -> call.of(x, 8, 3, 6), 1);
        }
    }

    /** "chosen: .. 5 (it can't be)": BUNT with a runner on some base and OUTS below 2, STEAL with one on first, none on second. */
    private static void chosenCanBe() {
        for (int bases = 0; bases < 8; bases++) {
            for (int outs = 0; outs < 3; outs++) {
                int b = bases;
                int o = outs;
                boolean bunt = bases > 0 && outs < 2;
                boolean steal = bases == 1 || bases == 5;
                RunWorth x = Check.with(ALWAYS);
                long hit = x.chosen(b, o, 1, 0, 0);
                check.due("HIT can always be", hit, 1 + Integer.bitCount(b));
                if (!bunt) {
                    rich.refused("BUNT in " + b + ", " + o, y -> y.chosen(b, o, 1, 1, 0), 5);
                } else {
                    check.due("BUNT in " + b + ", " + o, x.chosen(b, o, 1, 1, 0), b >> 2);
                    check.due("trouble()", x.trouble(), 0);
                }
                if (!steal) {
                    rich.refused("STEAL in " + b + ", " + o, y -> y.chosen(b, o, 5, 2, 1), 5);
                } else {
                    x.become(3, 20);
                    check.due("STEAL in " + b + ", " + o, x.chosen(b, o, 1, 2, 0), hit);
                    check.due("trouble()", x.trouble(), 0);
                }
            }
        }
    }

    /** "breaksEven: .. 5 (it can't be)". */
    private static void breaksEvenCanBe() {
        for (int bases = 0; bases < 8; bases++) {
            for (int outs = 0; outs < 3; outs++) {
                int b = bases;
                int o = outs;
                if (bases == 1 || bases == 5) {
                    RunWorth x = Check.with(ALWAYS);
                    check.due("breaksEven in " + b + ", " + o, x.breaksEven(b, o, 1), -2);
                    check.due("-2 isn't refused", x.trouble(), 0);
                } else {
                    rich.refused("breaksEven in " + b + ", " + o, x -> x.breaksEven(b, o, 1), 5);
                    few.refused("breaksEven in " + b + ", " + o, x -> x.breaksEven(b, o, 5), 5);
                }
            }
        }
    }

    private static void is(String sentence, long above, long below, long aboveDue, long belowDue) {
        check.due(sentence + ", above", above, aboveDue);
        check.due(sentence + ", below", below, belowDue);
    }

    /** "k BATTERS at most coming up": what the next one would bring isn't in it. */
    private static void atMostKBatters() {
        RunWorth x = Check.with("batter a 0 20 0 0 0 0;batter b 0 20 0 0 0 0;batter c 0 20 0 0 0 0;batter d 0 0 0 0 0 20");
        is("three walks", x.plain(0, 2, 3, 0), x.plain(0, 2, 3, 1), 0, 1);
        is("the homer behind them", x.plain(0, 2, 4, 0), x.plain(0, 2, 4, 1), 4, 1);
        is("no odds yet", x.any(0, 2, 3, 0), x.any(0, 2, 3, 1), 0, 1);
        is("sure", x.any(0, 2, 4, 0), x.any(0, 2, 4, 1), 1, 1);
        is("wise", x.wise(0, 2, 3, 0), x.wise(0, 2, 3, 1), 0, 1);
        is("wise", x.wise(0, 2, 4, 0), x.wise(0, 2, 4, 1), 4, 1);
    }

    /** "RUNS yet in this INNING"; "At the third OUT the INNING is over". */
    private static void inThisInning() {
        RunWorth x = Check.with("batter a 20 0 0 0 0 0;batter b 0 0 0 0 0 20");
        is("one OUT is left", x.plain(7, 2, 5, 0), x.plain(7, 2, 5, 1), 0, 1);
        is("two are", x.plain(7, 1, 5, 0), x.plain(7, 1, 5, 1), 4, 1);
        is("three are", x.plain(7, 0, 5, 0), x.plain(7, 0, 5, 1), 5, 1);
        is("one OUT is left", x.any(7, 2, 5, 0), x.any(7, 2, 5, 1), 0, 1);
        is("two are", x.any(7, 1, 2, 0), x.any(7, 1, 2, 1), 1, 1);
        // of half outs: the first one ends it
        x = Check.with(HALF);
        is("OUTS 2", x.plain(0, 2, 2, 0), x.plain(0, 2, 2, 1), 3, 4);
        is("OUTS 1", x.plain(0, 1, 2, 0), x.plain(0, 1, 2, 1), 1, 1);
        is("OUTS 2", x.table(0, 2, 2, 0), x.table(0, 2, 2, 1), 3, 4);
        is("OUTS 1", x.table(0, 1, 2, 0), x.table(0, 1, 2, 1), 1, 1);
    }

    /** "from him on who is NEXT, in their ORDER, round". */
    private static void roundTheOrder() {
        RunWorth x = Check.with("batter a 0 20 0 0 0 0;batter b 0 0 0 0 0 20;batter c 0 0 0 20 0 0");
        // a walks, b hits two home, c doubles, a walks, b hits three home
        long[] fromA = {0, 2, 2, 2, 5};
        // c doubles, a walks, b hits three home, c doubles, a walks
        long[] fromC = {0, 0, 3, 3, 3};
        for (int k = 1; k <= 5; k++) {
            check.due("from a, " + k, x.plain(0, 2, k, 0), fromA[k - 1]);
            check.due("wise from a, " + k, x.wise(0, 2, k, 0), fromA[k - 1]);
        }
        x.event(0);
        x.event(0);
        for (int k = 1; k <= 5; k++) {
            check.due("from c, " + k, x.plain(0, 2, k, 0), fromC[k - 1]);
        }
        x.swap(0, 2);
        // c is NEXT on the first place, then b, a: a double, two home, a walk, c's double, b's three
        long[] swapped = {0, 2, 2, 2, 5};
        for (int k = 1; k <= 5; k++) {
            check.due("from c ahead, " + k, x.plain(0, 2, k, 0), swapped[k - 1]);
        }
    }

    /** "FACED going on": each BATTER is at FACED one more. */
    private static void facedGoesOn() {
        RunWorth x = Check.with(NEVER + ";tire 3");
        is("at 0, 1, 2: never", x.plain(4, 0, 5, 0), x.plain(4, 0, 5, 1), 0, 1);
        x.event(0);
        is("at 1, 2: never", x.plain(4, 0, 2, 0), x.plain(4, 0, 2, 1), 0, 1);
        is("at 3: one of 20", x.plain(4, 0, 3, 0), x.plain(4, 0, 3, 1), 1, 20);
        x.event(0);
        is("at 2: never", x.plain(4, 1, 1, 0), x.plain(4, 1, 1, 1), 0, 1);
        is("at 3: one of 20", x.plain(4, 1, 2, 0), x.plain(4, 1, 2, 1), 1, 20);
        is("at 3: one of 20", x.any(4, 1, 2, 0), x.any(4, 1, 2, 1), 1, 20);
        is("at 3: one of 20", x.chosen(4, 1, 2, 0, 0), x.chosen(4, 1, 2, 0, 1), 1, 20);
        x = Check.with(NEVER + ";tire 1");
        for (int f = 0; f < 18; f++) {
            // with OUTS 1 and by HIT: f of 20 at first, else OUT, then f + 1 of 20
            long above = 20 * f + (20 - f) * (f + 1);
            long common = gcd(above, 400);
            is("at " + f + " and one more", x.plain(4, 1, 2, 0), x.plain(4, 1, 2, 1), above / common, 400 / common);
            is("as odds", x.any(4, 1, 2, 0), x.any(4, 1, 2, 1), above / common, 400 / common);
            // not so by STEAL: who is on first by the SINGLE comes to second alone
            is("HIT", x.chosen(4, 1, 2, 0, 0), x.chosen(4, 1, 2, 0, 1), above / common, 400 / common);
            x.event(5);
        }
    }

    private static long gcd(long a, long b) {
        return b == 0 ? a : gcd(b, a % b);
    }

    /** "as it is NOW": at FACED tire he has one SINGLE in twenty, just ahead of it none. */
    private static void facedAsItIsNow() {
        RunWorth x = Check.with(NEVER + ";tire 9");
        for (int f = 0; f <= 19; f++) {
            long[] due = {0, 1, 1};
            is("FACED " + f, x.plain(4, 2, 1, 0), x.plain(4, 2, 1, 1), due[f / 9], f < 9 ? 1 : f < 18 ? 20 : 10);
            check.due("it is NOW", x.about(6), f);
            x.event(0);
        }
        x.relieve();
        is("another thrower", x.plain(4, 2, 1, 0), x.plain(4, 2, 1, 1), 0, 1);
    }

    /** "Fractions are told in lowest terms, below above 0 (0 by 1)." */
    private static void lowestTerms() {
        RunWorth x = Check.with(NEVER);
        is("0 by 1", x.plain(7, 0, 5, 0), x.plain(7, 0, 5, 1), 0, 1);
        is("0 by 1", x.any(7, 0, 5, 0), x.any(7, 0, 5, 1), 0, 1);
        is("0 by 1", x.table(7, 0, 5, 0), x.table(7, 0, 5, 1), 0, 1);
        is("0 by 1", x.wise(0, 0, 5, 0), x.wise(0, 0, 5, 1), 0, 1);
        is("0 by 1", x.chosen(7, 0, 1, 0, 0), x.chosen(7, 0, 1, 0, 1), 0, 1);
        x = Check.with(ALWAYS);
        is("a whole number", x.plain(7, 0, 5, 0), x.plain(7, 0, 5, 1), 8, 1);
        is("a whole number", x.wise(7, 0, 5, 0), x.wise(7, 0, 5, 1), 8, 1);
        is("a whole number", x.table(7, 0, 5, 0), x.table(7, 0, 5, 1), 8, 1);
        x = Check.with("batter a 19 0 0 0 0 1");
        is("the least of one", x.plain(0, 2, 1, 0), x.plain(0, 2, 1, 1), 1, 20);
        // five homers in a row at least: one each, 1/20 + 1/400 ..
        is("the longest below", x.plain(0, 2, 5, 0), x.plain(0, 2, 5, 1), 168421, 3200000);
        is("as odds", x.any(0, 2, 5, 0), x.any(0, 2, 5, 1), 1, 20);
        x = Check.with("batter a 18 0 0 0 0 2;batter b 18 0 0 0 0 2");
        is("in lowest terms", x.plain(0, 2, 2, 0), x.plain(0, 2, 2, 1), 11, 100);
        is("in lowest terms", x.table(0, 2, 2, 0), x.table(0, 2, 2, 1), 11, 100);
        is("in lowest terms", x.wise(0, 2, 2, 0), x.wise(0, 2, 2, 1), 11, 100);
    }

    /** "the odds that there is a RUN at all": four at once are as much as one. */
    private static void anyIsNotHowMany() {
        RunWorth x = Check.with(ALWAYS);
        is("four at once", x.any(7, 0, 1, 0), x.any(7, 0, 1, 1), 1, 1);
        is("five times", x.any(0, 0, 5, 0), x.any(0, 0, 5, 1), 1, 1);
        x = Check.with(NEVER + ";fly 1");
        is("by a fly", x.any(4, 1, 1, 0), x.any(4, 1, 1, 1), 1, 1);
        is("not by the third OUT", x.any(4, 2, 1, 0), x.any(4, 2, 1, 1), 0, 1);
    }

    /** "of like ones HIT, then BUNT". */
    private static void hitAheadOfBunt() {
        RunWorth x = Check.with("batter a 0 0 20 0 0 0");
        check.due("HIT is as much as BUNT", x.choice(4, 0, 1), 0);
        x.shift(0, 2, 0, 1);
        check.due("HIT is one twentieth less", x.choice(4, 0, 1), 1);
        check.due("BUNT can't be with OUTS 2", x.choice(4, 2, 1), 0);
        check.due("nor without a runner", x.choice(0, 0, 1), 0);
        is("wise", x.wise(4, 0, 1, 0), x.wise(4, 0, 1, 1), 1, 1);
        is("wise, OUTS 2", x.wise(4, 2, 1, 0), x.wise(4, 2, 1, 1), 19, 20);
    }

    /** "of like ones HIT, .. then STEAL": two come home by a HIT behind it, by steal twentieths. */
    private static void hitAheadOfSteal() {
        RunWorth x = Check.with("batter a 0 0 20 0 0 0;single 2;steal 10");
        check.due("10 of 20 of two runs are as much as one", x.choice(5, 2, 1), 0);
        is("so much", x.wise(5, 2, 1, 0), x.wise(5, 2, 1, 1), 1, 1);
        is("so much", x.chosen(5, 2, 1, 2, 0), x.chosen(5, 2, 1, 2, 1), 1, 1);
        x.become(3, 11);
        check.due("11 are more", x.choice(5, 2, 1), 2);
        is("so much", x.wise(5, 2, 1, 0), x.wise(5, 2, 1, 1), 11, 10);
        x.become(3, 9);
        check.due("9 are less", x.choice(5, 2, 1), 0);
        is("so much", x.chosen(5, 2, 1, 2, 0), x.chosen(5, 2, 1, 2, 1), 9, 10);
        is("so much", x.wise(5, 2, 1, 0), x.wise(5, 2, 1, 1), 1, 1);
    }

    /** "of like ones .. BUNT, then STEAL". */
    private static void buntAheadOfSteal() {
        RunWorth x = Check.with(NEVER + ";steal 20");
        check.due("a STEAL, then a BUNT brings one as a BUNT does", x.choice(5, 0, 1), 1);
        is("so much", x.chosen(5, 0, 1, 2, 0), x.chosen(5, 0, 1, 2, 1), 1, 1);
        // with OUTS 1 a CAUGHT leaves no BUNT; by 20 it is as much
        check.due("OUTS 1", x.choice(5, 1, 1), 1);
        x.become(3, 19);
        check.due("OUTS 1", x.choice(5, 1, 1), 1);
        is("so much", x.chosen(5, 1, 1, 2, 0), x.chosen(5, 1, 1, 2, 1), 19, 20);
        // a second BATTER bunts him home from third who was on second
        x.become(3, 1);
        check.due("STEAL is more by k 2", x.choice(5, 0, 2), 2);
        is("so much", x.wise(5, 0, 2, 0), x.wise(5, 0, 2, 1), 21, 20);
        x.become(3, 0);
        check.due("it isn't by 0", x.choice(5, 0, 2), 0);
    }

    /** "then, if the INNING isn't over, HIT or BUNT": a CAUGHT with OUTS 2 leaves nothing to come. */
    private static void stealEndsTheInning() {
        RunWorth x = Check.with(ALWAYS + ";steal 0");
        is("OUTS 2, CAUGHT", x.chosen(1, 2, 5, 2, 0), x.chosen(1, 2, 5, 2, 1), 0, 1);
        is("OUTS 1, CAUGHT", x.chosen(1, 1, 5, 2, 0), x.chosen(1, 1, 5, 2, 1), 5, 1);
        x.become(3, 1);
        is("OUTS 2, 1 of 20", x.chosen(1, 2, 5, 2, 0), x.chosen(1, 2, 5, 2, 1), 3, 10);
        x.become(3, 20);
        is("OUTS 2, STOLEN", x.chosen(1, 2, 5, 2, 0), x.chosen(1, 2, 5, 2, 1), 6, 1);
    }

    /** "(behind a STEAL HIT ahead of BUNT)": by HIT a's SINGLE, then a BUNT; by BUNT b's SINGLE brings one home. */
    private static void behindAStealHitAheadOfBunt() {
        for (int more = -1; more <= 1; more++) {
            int q = 10 + more;
            RunWorth x = Check.with("steal 20;batter a 10 0 10 0 0 0;batter b " + (20 - q) + " 0 " + q + " 0 0 0");
            x.event(1);
            x.event(0);
            check.due("OUTS", x.about(3), 1);
            check.due("BASES", x.about(2), 1);
            check.due("NEXT", x.about(5), 0);
            check.due("STEAL", x.choice(1, 1, 2), 2);
            is("so much", x.wise(1, 1, 2, 0), x.wise(1, 1, 2, 1), Math.max(q, 10) % 2 == 0 ? 1 : 11, q > 10 ? 20 : 2);
            x.play(1, 1, true);
            check.due("STOLEN", x.log(1, 1), 7);
            // the second draw by 1 is 9 modulo 20: OUT
            check.due("behind it, b's SINGLE " + q, x.log(0, 1), q > 10 ? 6 : 0);
        }
    }

    /** "The least steal (0 .. 20 ..) by which STEAL would be chosen at first; -2: by none." */
    private static void leastSteal() {
        // OUTS 2, k 2, a runner on first, DOUBLES p of 20: HIT brings 2pp, STEAL by s of 20 brings p + pp
        for (int p = 0; p <= 20; p++) {
            RunWorth x = Check.with("batter a " + (20 - p) + " 0 0 " + p + " 0 0;tire 99");
            int least = 40 * p / (20 + p) + 1;
            check.due("breaksEven by " + p, x.breaksEven(1, 2, 2), p == 0 || least > 20 ? -2 : least);
            check.due("trouble()", x.trouble(), 0);
            check.due("where()", x.where(), -1);
            check.due("steal stays", x.rule(3), 14);
        }
        check.due("20", Check.with("batter a 1 0 0 19 0 0").breaksEven(1, 2, 2), 20);
        check.due("none", Check.with("batter a 0 0 0 20 0 0").breaksEven(1, 2, 2), -2);
        check.due("1", Check.with(NEVER).breaksEven(1, 0, 2), 1);
        check.due("none", Check.with(NEVER).breaksEven(1, 0, 1), -2);
        // HIT brings 4 of 20, STEAL by s of 20 brings 7 of 20: a DOUBLE's run, too
        few.told("breaksEven changes nothing", x -> x.breaksEven(1, 2, 1), 12);
    }

    private static final String[] ALL_ALONG = {
        "batter a 18 0 2 0 0 0", "batter a 5 0 0 15 0 0", "batter a 6 0 14 0 0 0;batter b 0 0 0 20 0 0",
        "batter a 5 0 0 15 0 0;batter b 12 0 0 8 0 0", "batter a 14 0 0 6 0 0", "batter a 1 0 0 19 0 0"
    };
    private static final int[][] ALL_ALONG_AT = {{1, 1, 3, 2}, {5, 1, 2, 16}, {1, 1, 3, -2}, {5, 0, 3, 18}, {1, 0, 3, -2}, {5, 1, 2, 20}};

    /** "(.. that all along)": as choice() tells it when steal has become that; not by the one that is. */
    private static void stealAllAlong() {
        for (int i = 0; i < ALL_ALONG.length; i++) {
            int[] at = ALL_ALONG_AT[i];
            for (int steal = 0; steal <= 20; steal++) {
                RunWorth x = Check.with(ALL_ALONG[i] + ";tire 99;steal " + steal);
                check.due("breaksEven, " + ALL_ALONG[i], x.breaksEven(at[0], at[1], at[2]), at[3]);
                if (at[3] == -2 || steal <= at[3]) {
                    int due = steal == at[3] ? 1 : 0;
                    check.due("STEAL by " + steal + ", " + ALL_ALONG[i], x.choice(at[0], at[1], at[2]) == 2 ? 1 : 0, due);
                }
            }
        }
    }

    /** "all k BATTERS having each EVENT by the CHANCES of all BATTERS together (nobody tires)". */
    private static void tableOfAllTogether() {
        StringBuilder s = new StringBuilder("tire 1");
        for (char c = 'a'; c <= 'i'; c++) {
            s.append(";batter ").append(c).append(c == 'i' ? " 19 0 0 0 0 1" : " 20 0 0 0 0 0");
        }
        RunWorth x = Check.with(s.toString());
        is("one of nine", x.table(0, 0, 1, 0), x.table(0, 0, 1, 1), 1, 180);
        is("by 3", x.table(0, 0, 3, 0), x.table(0, 0, 3, 1), 1, 60);
        // with OUTS 2 only homers go on: 1/180, 1/180 of that ..: the longest below of all
        is("by 5", x.table(0, 2, 5, 0), x.table(0, 2, 5, 1), 1055624581L, 188956800000L);
        for (int i = 0; i < 30; i++) {
            x.event(5);
        }
        is("nobody tires", x.table(0, 0, 1, 0), x.table(0, 0, 1, 1), 1, 180);
        x.shift(8, 5, 0, 1);
        is("as they are NOW", x.table(0, 0, 1, 0), x.table(0, 0, 1, 1), 0, 1);
        x = Check.with("batter a 20 0 0 0 0 0;batter b 0 0 0 0 0 20");
        is("whoever is NEXT", x.table(0, 0, 1, 0), x.table(0, 0, 1, 1), 1, 2);
        x.event(0);
        is("whoever is NEXT", x.table(0, 0, 1, 0), x.table(0, 0, 1, 1), 1, 2);
    }
}
