/** Boundaries of Terms II (events, CHANCES) and of promises 6 to 12: each method's remark tells the sentence. */
public final class EdgeTellTests {
    private static final Check check = new Check("edges of what is told");
    private static final Edges few = new Edges(check, Edges::few);
    private static final Edges rich = new Edges(check, Edges::rich);
    private static final Edges[] BOTH = {few, rich};
    private static final String NEVER = "batter a 20 0 0 0 0 0";

    public static void main(String[] args) {
        aboutWhat();
        aboutCounts();
        ruleWhat();
        batterNumbers();
        batterWhat();
        batterInTheLog();
        places();
        comingRound();
        chanceRefused();
        chanceByTire();
        chanceOfFewOuts();
        afterRefused();
        afterToldFirst();
        outAndFly();
        walkPushes();
        singleAndDouble();
        tripleAndHomer();
        buntCanBe();
        stealCanBe();
        thirdOut();
        check.end();
    }

    /** "about(what): 0 .. 8"; "NONE: 1 (no TEXT, what)". */
    private static void aboutWhat() {
        int[] due = {3, 1, 5, 1, 0, 0, 3, 3, 4};
        for (int what = 0; what < 9; what++) {
            int w = what;
            few.told("about(" + w + ")", x -> x.about(w), due[w]);
        }
        for (Edges edges : BOTH) {
            for (int what : new int[] {-1, 9, Integer.MIN_VALUE, Integer.MAX_VALUE}) {
                edges.refused("about(" + what + ")", x -> x.about(what), 1);
            }
        }
    }

    /** "7 rows of THE LOG" (40 at most), "8 ACTS that can be undone" (10 at most). */
    private static void aboutCounts() {
        rich.told("rows of a full log", x -> x.about(7), 40);
        rich.told("ACTS, ten and more", x -> x.about(8), 10);
        RunWorth x = Check.with(NEVER);
        check.due("no rows", x.about(7), 0);
        check.due("no ACTS", x.about(8), 0);
        for (int i = 1; i <= 42; i++) {
            x.event(5);
            check.due("rows", x.about(7), i < 40 ? i : 40);
            check.due("ACTS", x.about(8), i < 10 ? i : 10);
            check.due("SCORE goes on", x.about(4), i);
            check.due("FACED goes on", x.about(6), i);
        }
    }

    /** "rule(what): 0 .. 4"; "NONE: 1 (no TEXT, what)". */
    private static void ruleWhat() {
        int[] due = {1, 2, 1, 9, 7};
        for (int what = 0; what < 5; what++) {
            int w = what;
            few.told("rule(" + w + ")", x -> x.rule(w), due[w]);
        }
        for (int what : new int[] {-1, 5, Integer.MIN_VALUE, Integer.MAX_VALUE}) {
            for (Edges edges : BOTH) {
                edges.refused("rule(" + what + ")", x -> x.rule(what), 1);
            }
        }
    }

    /** "batter(b, ..): NONE: 1": b 0 and the last one are, -1 and the count aren't. */
    private static void batterNumbers() {
        few.told("batter(0, 0)", x -> x.batter(0, 0), 8);
        few.told("batter(2, 0)", x -> x.batter(2, 0), 20);
        for (int b : new int[] {-1, 3, 8, 9, Integer.MIN_VALUE, Integer.MAX_VALUE}) {
            for (Edges edges : BOTH) {
                for (int what = 0; what < 9; what++) {
                    int w = what;
                    edges.refused("batter(" + b + ", " + w + ")", x -> x.batter(b, w), 1);
                }
            }
        }
        RunWorth nine = Check.with(nine());
        check.due("batter(8, 5)", nine.batter(8, 5), 20);
        check.refused("batter(9, 5)", nine, nine.batter(9, 5), 1);
        RunWorth one = Check.with(NEVER);
        check.due("batter(0, 0)", one.batter(0, 0), 20);
        check.refused("batter(1, 0)", one, one.batter(1, 0), 1);
    }

    private static String nine() {
        StringBuilder s = new StringBuilder();
        for (char c = 'a'; c <= 'i'; c++) {
            s.append(c == 'a' ? "" : ";").append("batter ").append(c).append(c == 'i' ? " 0 0 0 0 0 20" : " 20 0 0 0 0 0");
        }
        return s.toString();
    }

    /** "1 (what, too)": 0 to 8 are, -1 and 9 aren't. */
    private static void batterWhat() {
        int[] ann = {8, 2, 4, 3, 2, 1, 2, 1, 0};
        for (int what = 0; what < 9; what++) {
            int w = what;
            few.told("batter(0, " + w + ")", x -> x.batter(0, w), ann[w]);
        }
        for (int what : new int[] {-1, 9, Integer.MIN_VALUE, Integer.MAX_VALUE}) {
            for (Edges edges : BOTH) {
                edges.refused("batter(0, " + what + ")", x -> x.batter(0, what), 1);
                edges.refused("batter(2, " + what + ")", x -> x.batter(2, what), 1);
            }
        }
    }

    /** "7 his rows in THE LOG, 8 RUNS in these": none at first; those that fell out aren't told. */
    private static void batterInTheLog() {
        RunWorth x = Check.with(NEVER + ";batter b 20 0 0 0 0 0");
        check.due("no rows", x.batter(0, 7), 0);
        check.due("no RUNS", x.batter(0, 8), 0);
        for (int i = 0; i < 40; i++) {
            x.event(5);
        }
        check.due("rows", x.batter(0, 7), 20);
        check.due("RUNS", x.batter(0, 8), 20);
        x.event(1);
        check.due("one came, one fell out", x.batter(0, 7), 20);
        check.due("a homer fell out", x.batter(0, 8), 19);
        check.due("of the other none did", x.batter(1, 7), 20);
        x.event(7);
        check.due("a STEAL is a row of him who is up, and one of his fell out", x.batter(1, 7), 20);
        check.due("with its RUN", x.batter(1, 8), 19);
        check.due("of the other none did", x.batter(0, 7), 20);
    }

    /** "place(i): NONE: 1": 0 and the last place are, -1 and the count aren't. */
    private static void places() {
        few.told("place(0)", x -> x.place(0), 2);
        few.told("place(2)", x -> x.place(2), 0);
        for (int i : new int[] {-1, 3, 8, 9, Integer.MIN_VALUE, Integer.MAX_VALUE}) {
            for (Edges edges : BOTH) {
                edges.refused("place(" + i + ")", x -> x.place(i), 1);
            }
        }
        RunWorth nine = Check.with(nine());
        check.due("place(8)", nine.place(8), 8);
        check.refused("place(9)", nine, nine.place(9), 1);
        RunWorth one = Check.with(NEVER);
        check.due("place(0)", one.place(0), 0);
        check.refused("place(1)", one, one.place(1), 1);
    }

    /** "coming(i): .. (0: he himself), round. NONE: 1 (no TEXT; i below 0)." */
    private static void comingRound() {
        // NEXT is ann, the last of cy, bo, ann
        int[] round = {0, 2, 1};
        for (int i : new int[] {0, 1, 2, 3, 4, 5, 6, 300, 2147483645, 2147483646, 2147483647}) {
            few.told("coming(" + i + ")", x -> x.coming(i), round[i % 3]);
        }
        for (int i : new int[] {-1, -2, -3, Integer.MIN_VALUE, Integer.MIN_VALUE + 1}) {
            for (Edges edges : BOTH) {
                edges.refused("coming(" + i + ")", x -> x.coming(i), 1);
            }
        }
        RunWorth nine = Check.with(nine());
        nine.event(1);
        check.due("coming(8) of nine", nine.coming(8), 0);
        check.due("coming(9) of nine", nine.coming(9), 1);
        check.due("coming(2147483647) of nine", nine.coming(2147483647), 2);
        check.due("coming(2147483647) of one", Check.with(NEVER).coming(2147483647), 0);
    }

    /** "chance(b, e, f): CHANCES of a BATTER of an EVENT (0 .. 5) at FACED f (0 .. 999). NONE: 1; 2." */
    private static void chanceRefused() {
        few.told("chance(0, 0, 0)", x -> x.chance(0, 0, 0), 8);
        few.told("chance(2, 5, 999)", x -> x.chance(2, 5, 999), 0);
        few.told("chance(2, 2, 999)", x -> x.chance(2, 2, 999), 20);
        for (Edges edges : BOTH) {
            for (int f : new int[] {-1, 1000, Integer.MIN_VALUE, Integer.MAX_VALUE}) {
                edges.refused("chance(0, 0, " + f + ")", x -> x.chance(0, 0, f), 2);
                edges.refused("chance(2, 5, " + f + ")", x -> x.chance(2, 5, f), 2);
                // 1 is told ahead of 2
                edges.refused("chance(3, 0, " + f + ")", x -> x.chance(3, 0, f), 1);
                edges.refused("chance(0, 6, " + f + ")", x -> x.chance(0, 6, f), 1);
            }
            for (int b : new int[] {-1, 3, Integer.MIN_VALUE, Integer.MAX_VALUE}) {
                edges.refused("chance(" + b + ", 0, 0)", x -> x.chance(b, 0, 0), 1);
            }
            for (int e : new int[] {-1, 6, 7, 8, Integer.MIN_VALUE, Integer.MAX_VALUE}) {
                edges.refused("chance(0, " + e + ", 0)", x -> x.chance(0, e, 0), 1);
                edges.refused("chance(0, " + e + ", 999)", x -> x.chance(0, e, 999), 1);
            }
        }
    }

    /** "of OUT less, of SINGLE more by the lesser of OUT and of f by tire (cut)": both sides of each step. */
    private static void chanceByTire() {
        for (int tire : new int[] {1, 2, 7, 30, 49, 50, 98, 99}) {
            RunWorth x = Check.with("tire " + tire + ";batter a 12 1 1 2 3 1");
            for (int f = 0; f <= 999; f++) {
                boolean edge = f % tire < 2 || f % tire == tire - 1;
                if (edge && (f < 2 * tire + 2 || f > 11 * tire && f < 13 * tire || f > 996)) {
                    int less = Math.min(12, f / tire);
                    check.due("chance(0, 0, " + f + ") by tire " + tire, x.chance(0, 0, f), 12 - less);
                    check.due("chance(0, 2, " + f + ") by tire " + tire, x.chance(0, 2, f), 1 + less);
                }
            }
            check.due("WALK stays", x.chance(0, 1, 999), 1);
            check.due("DOUBLE stays", x.chance(0, 3, 999), 2);
            check.due("TRIPLE stays", x.chance(0, 4, 999), 3);
            check.due("HOMER stays", x.chance(0, 5, 999), 1);
        }
        RunWorth x = Check.with("tire 1;" + NEVER);
        check.due("chance(0, 0, 19)", x.chance(0, 0, 19), 1);
        check.due("chance(0, 0, 20)", x.chance(0, 0, 20), 0);
        check.due("chance(0, 0, 21)", x.chance(0, 0, 21), 0);
        check.due("chance(0, 2, 21)", x.chance(0, 2, 21), 20);
    }

    /** "the lesser of OUT ..": without OUT there is none to go over. */
    private static void chanceOfFewOuts() {
        RunWorth x = Check.with("tire 1;batter a 0 0 0 0 0 20;batter b 1 0 0 0 0 19");
        for (int f : new int[] {0, 1, 2, 999}) {
            check.due("OUT of none", x.chance(0, 0, f), 0);
            check.due("SINGLE of none", x.chance(0, 2, f), 0);
            check.due("OUT of one", x.chance(1, 0, f), f == 0 ? 1 : 0);
            check.due("SINGLE of one", x.chance(1, 2, f), f == 0 ? 0 : 1);
        }
    }

    /** "after: .. an EVENT (0 .. 8) in a STATE 0 BASES, 1 OUTS .., 2 RUNS. NONE: 1 (no TEXT, EVENT, what); 2; 5". */
    private static void afterRefused() {
        few.told("after(0, 0, 0, 0)", x -> x.after(0, 0, 0, 0), 0);
        few.told("after(7, 2, 5, 2)", x -> x.after(7, 2, 5, 2), 4);
        few.told("after(1, 2, 8, 1)", x -> x.after(1, 2, 8, 1), 3);
        for (Edges edges : BOTH) {
            for (int e : new int[] {-1, 9, Integer.MIN_VALUE, Integer.MAX_VALUE}) {
                edges.refused("after(1, 0, " + e + ", 0)", x -> x.after(1, 0, e, 0), 1);
            }
            for (int what : new int[] {-1, 3, Integer.MIN_VALUE, Integer.MAX_VALUE}) {
                edges.refused("after(1, 0, 0, " + what + ")", x -> x.after(1, 0, 0, what), 1);
            }
            for (int bases : new int[] {-1, 8, 9, Integer.MIN_VALUE, Integer.MAX_VALUE}) {
                edges.refused("after(" + bases + ", 0, 0, 0)", x -> x.after(bases, 0, 0, 0), 2);
            }
            for (int outs : new int[] {-1, 3, Integer.MIN_VALUE, Integer.MAX_VALUE}) {
                edges.refused("after(1, " + outs + ", 0, 0)", x -> x.after(1, outs, 0, 0), 2);
            }
            edges.refused("after(0, 0, 6, 0)", x -> x.after(0, 0, 6, 0), 5);
            edges.refused("after(1, 2, 6, 0)", x -> x.after(1, 2, 6, 0), 5);
            edges.refused("after(3, 0, 7, 0)", x -> x.after(3, 0, 7, 0), 5);
            edges.refused("after(4, 0, 8, 0)", x -> x.after(4, 0, 8, 0), 5);
        }
    }

    /** "Of several the one that the call tells first": 1, then 2, then 5. */
    private static void afterToldFirst() {
        few.refused("what ahead of BASES", x -> x.after(8, 3, 6, 3), 1);
        few.refused("EVENT ahead of OUTS", x -> x.after(0, 3, 9, 0), 1);
        few.refused("BASES ahead of what can't be", x -> x.after(8, 2, 6, 0), 2);
        few.refused("OUTS ahead of what can't be", x -> x.after(0, 3, 6, 0), 2);
        few.refused("what ahead of what can't be", x -> x.after(0, 0, 6, 3), 1);
    }

    private static void behind(RunWorth x, int bases, int outs, int e, int basesDue, int outsDue, int runsDue) {
        String by = "after(" + bases + ", " + outs + ", " + e;
        check.due(by + ", 0)", x.after(bases, outs, e, 0), basesDue);
        check.due(by + ", 1)", x.after(bases, outs, e, 1), outsDue);
        check.due(by + ", 2)", x.after(bases, outs, e, 2), runsDue);
    }

    /** "OUTS 1 more; if fly is 1, it isn't the third one and there is a runner on third, he comes home." */
    private static void outAndFly() {
        RunWorth x = Check.with(NEVER + ";fly 1");
        behind(x, 4, 0, 0, 0, 1, 1);
        behind(x, 4, 1, 0, 0, 2, 1);
        // it is the third one
        behind(x, 4, 2, 0, 0, 3, 0);
        behind(x, 7, 2, 0, 0, 3, 0);
        // others stay
        behind(x, 7, 1, 0, 3, 2, 1);
        // nobody is on third
        behind(x, 3, 1, 0, 3, 2, 0);
        behind(x, 0, 1, 0, 0, 2, 0);
        x.become(2, 0);
        behind(x, 4, 0, 0, 4, 1, 0);
        behind(x, 7, 1, 0, 7, 2, 0);
        behind(x, 7, 2, 0, 0, 3, 0);
    }

    /** "the batter goes to first; who was there to second, .. to third, .. home (others stay)". */
    private static void walkPushes() {
        RunWorth x = Check.with(NEVER);
        behind(x, 0, 0, 1, 1, 0, 0);
        behind(x, 1, 0, 1, 3, 0, 0);
        behind(x, 2, 0, 1, 3, 0, 0);
        behind(x, 3, 2, 1, 7, 2, 0);
        behind(x, 4, 2, 1, 5, 2, 0);
        behind(x, 5, 2, 1, 7, 2, 0);
        behind(x, 6, 2, 1, 7, 2, 0);
        behind(x, 7, 2, 1, 7, 2, 1);
    }

    /** "each runner comes on by as many bases as told"; "Whoever comes on from third, or beyond it, comes home". */
    private static void singleAndDouble() {
        RunWorth x = Check.with(NEVER);
        behind(x, 2, 0, 2, 5, 0, 0);
        behind(x, 4, 0, 2, 1, 0, 1);
        behind(x, 1, 0, 3, 6, 0, 0);
        behind(x, 2, 0, 3, 2, 0, 1);
        x.become(0, 2);
        behind(x, 1, 0, 2, 5, 0, 0);
        behind(x, 2, 0, 2, 1, 0, 1);
        behind(x, 4, 0, 2, 1, 0, 1);
        x.become(1, 3);
        behind(x, 1, 0, 3, 2, 0, 1);
        behind(x, 7, 2, 3, 2, 2, 3);
        behind(x, 0, 2, 3, 2, 2, 0);
    }

    /** "all runners come home, the batter is on third"; "all do, the batter, too". */
    private static void tripleAndHomer() {
        RunWorth x = Check.with(NEVER);
        behind(x, 0, 2, 4, 4, 2, 0);
        behind(x, 7, 2, 4, 4, 2, 3);
        behind(x, 4, 0, 4, 4, 0, 1);
        behind(x, 0, 2, 5, 0, 2, 1);
        behind(x, 7, 0, 5, 0, 0, 4);
    }

    /** "BUNT (with a runner on some base, OUTS below 2): OUTS 1 more, each runner comes on by one base." */
    private static void buntCanBe() {
        RunWorth x = Check.with(NEVER);
        for (int outs = 0; outs < 3; outs++) {
            check.refused("without a runner", x, x.after(0, outs, 6, 0), 5);
            for (int bases = 1; bases < 8; bases++) {
                if (outs < 2) {
                    behind(x, bases, outs, 6, bases << 1 & 7, outs + 1, bases >> 2);
                } else {
                    check.refused("OUTS 2", x, x.after(bases, outs, 6, 1), 5);
                }
            }
        }
    }

    /** "STOLEN, CAUGHT (both with a runner on first, none on second)". */
    private static void stealCanBe() {
        RunWorth x = Check.with(NEVER);
        for (int outs = 0; outs < 3; outs++) {
            for (int bases = 0; bases < 8; bases++) {
                if (bases == 1 || bases == 5) {
                    behind(x, bases, outs, 7, bases + 1, outs, 0);
                    behind(x, bases, outs, 8, outs < 2 ? bases - 1 : 0, outs + 1, 0);
                } else {
                    check.refused("STOLEN from " + bases, x, x.after(bases, outs, 7, 0), 5);
                    check.refused("CAUGHT from " + bases, x, x.after(bases, outs, 8, 2), 5);
                }
            }
        }
    }

    /** "At the third OUT the INNING is over: nobody is on any base"; "OUTS (3: the INNING is over)". */
    private static void thirdOut() {
        RunWorth x = Check.with(NEVER);
        for (int bases = 0; bases < 8; bases++) {
            behind(x, bases, 1, 0, bases, 2, 0);
            behind(x, bases, 2, 0, 0, 3, 0);
        }
        behind(x, 5, 1, 8, 4, 2, 0);
        behind(x, 5, 2, 8, 0, 3, 0);
        behind(x, 7, 1, 6, 6, 2, 1);
    }
}
