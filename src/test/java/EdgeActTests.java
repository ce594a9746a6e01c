/** Boundaries of Terms V, of promises 29, 31, 32, 36 to 38, 41, of 512 calls: each method's remark tells the sentence. */
public final class EdgeActTests {
    private static final Check check = new Check("edges of acts");
    private static final Edges few = new Edges(check, Edges::few);
    private static final Edges rich = new Edges(check, Edges::rich);
    private static final Edges none = new Edges(check, Edges::empty);
    private static final Edges[] BOTH = {few, rich};
    private static final int[] FAR = {Integer.MIN_VALUE, Integer.MAX_VALUE};
    private static final String NEVER = "batter a 20 0 0 0 0 0";
    private static final String ALWAYS = "batter a 0 0 0 0 0 20";
    private static final int[] LEAST = {1, 2, 0, 0, 1};
    private static final int[] MOST = {2, 3, 1, 20, 99};

    public static void main(String[] args) {
        eventRefused();
        eventCanBe();
        eventTells();
        relieveFaced();
        beginScore();
        shiftRefused();
        shiftHowMany();
        shiftAll();
        becomeRefused();
        becomeAtItsBounds();
        becomeIsFelt();
        undoRefused();
        latestTen();
        latestFirst();
        refusedIsNoAct();
        aTextLeavesNone();
        whatIsNoAct();
        undoIsNoAct();
        troubleToldFirst();
        troubleOfEachCall();
        calls512();
        check.end();
    }

    // ---- events

    /** "event(e): ACT: an EVENT (0 .. 8): RUNS. NONE: 1; 5 (it can't be)." */
    private static void eventRefused() {
        for (int e : new int[] {-1, 9, 10, FAR[0], FAR[1]}) {
            few.refused("event(" + e + ")", x -> x.event(e), 1);
            rich.refused("event(" + e + ")", x -> x.event(e), 1);
            none.refused("event(" + e + ") without a TEXT", x -> x.event(e), 1);
        }
        // rich has runners on first and second
        rich.refused("STOLEN, second is taken", x -> x.event(7), 5);
        rich.refused("CAUGHT, second is taken", x -> x.event(8), 5);
        Edges clear = new Edges(check, () -> Check.with(NEVER));
        clear.refused("BUNT without a runner", x -> x.event(6), 5);
        clear.refused("STOLEN without a runner", x -> x.event(7), 5);
        clear.refused("CAUGHT without a runner", x -> x.event(8), 5);
        int[] runs = {1, 0, 1, 1, 2, 3, 1, 0, 0};
        for (int e = 0; e < 9; e++) {
            int event = e;
            // first and third, OUTS 1, fly 1
            few.act("event(" + e + ")", x -> x.event(event), runs[e], 5);
        }
        int[] full = {0, 0, 1, 1, 2, 3, 0};
        for (int e = 0; e < 7; e++) {
            int event = e;
            // single 2
            rich.act("event(" + e + ")", x -> x.event(event), full[e], 10);
        }
    }

    /** "BUNT (with a runner on some base, OUTS below 2)", "(both with a runner on first, none on second)", in a game. */
    private static void eventCanBe() {
        for (int outs = 0; outs < 3; outs++) {
            for (int bases = 0; bases < 8; bases++) {
                for (int e = 0; e < 9; e++) {
                    RunWorth x = standing(bases, outs);
                    boolean can = e < 6 || (e == 6 ? bases > 0 && outs < 2 : (bases & 3) == 1);
                    int acts = x.about(8);
                    long answer = x.event(e);
                    check.due("trouble() by " + e + " in " + bases + ", " + outs, x.trouble(), can ? 0 : 5);
                    check.due("where()", x.where(), -1);
                    check.due("ACTS", x.about(8), can ? Math.min(10, acts + 1) : acts);
                    if (!can) {
                        check.due("refused", answer, -1);
                        check.due("BASES stay", x.about(2), bases);
                        check.due("OUTS stay", x.about(3), outs);
                        check.due("it is as after tells", x.after(bases, outs, e, 2), -1);
                    } else {
                        int outsBehind = x.after(bases, outs, e, 1);
                        check.due("RUNS", answer, x.after(bases, outs, e, 2));
                        check.due("BASES", x.about(2), x.after(bases, outs, e, 0));
                        check.due("OUTS", x.about(3), outsBehind % 3);
                        check.due("INNING", x.about(1), outsBehind == 3 ? 2 : 1);
                        check.due("its row", x.log(0, 2), answer);
                        check.due("SCORE", x.about(4), x.batter(0, 8));
                    }
                }
            }
        }
    }

    /** A game with those BASES and OUTS. */
    private static RunWorth standing(int bases, int outs) {
        RunWorth x = Check.with(NEVER);
        for (int i = 0; i < outs; i++) {
            x.event(0);
        }
        int[][] ways = {{}, {1}, {3}, {1, 1}, {4}, {4, 1}, {3, 2, 7}, {1, 1, 1}};
        if (bases == 6) {
            // he on second stands on third by a SINGLE, the other one steals second
            x.event(3);
            x.event(2);
            x.event(7);
        } else {
            for (int e : ways[bases]) {
                x.event(e);
            }
        }
        check.due("BASES to begin with", x.about(2), bases);
        check.due("OUTS to begin with", x.about(3), outs);
        return x;
    }

    /** "RUNS": 0 is no refusal, four at most. */
    private static void eventTells() {
        RunWorth x = standing(7, 2);
        check.due("event(5)", x.event(5), 4);
        check.due("event(0)", x.event(0), 0);
        check.due("trouble()", x.trouble(), 0);
        check.due("INNING", x.about(1), 2);
        check.due("SCORE", x.about(4), 4);
    }

    // ---- another thrower, another game

    /** "relieve(): ACT: another thrower: FACED (0 then) that it was. NONE: 1 (no TEXT)." */
    private static void relieveFaced() {
        none.refused("relieve() without a TEXT", x -> x.relieve(), 1);
        few.act("relieve() of 3", x -> x.relieve(), 3, 5);
        rich.act("relieve() of 4", x -> x.relieve(), 4, 10);
        new Edges(check, () -> Check.with(NEVER)).act("relieve() of 0", x -> x.relieve(), 0, 1);
        RunWorth x = Check.with(NEVER + ";tire 2");
        x.event(0);
        x.event(1);
        check.due("tired", x.plain(4, 2, 1, 0), 1);
        check.due("relieve()", x.relieve(), 2);
        check.due("FACED", x.about(6), 0);
        check.due("not tired", x.plain(4, 2, 1, 0), 0);
        check.due("all else stays: OUTS", x.about(3), 1);
        check.due("all else stays: BASES", x.about(2), 1);
        check.due("all else stays: rows", x.about(7), 2);
    }

    /** "begin(): ACT: THE GAME begins anew (THE ORDER stays; THE LOG is empty): SCORE that it was. NONE: 1 (no TEXT)." */
    private static void beginScore() {
        none.refused("begin() without a TEXT", x -> x.begin(), 1);
        few.act("begin() of 0", x -> x.begin(), 0, 5);
        rich.act("begin() of 11", x -> x.begin(), 11, 10);
        RunWorth x = Edges.rich();
        x.begin();
        int[] due = {3, 1, 0, 0, 0, 2, 0, 0, 10};
        for (int what = 0; what < 9; what++) {
            check.due("about(" + what + ")", x.about(what), due[what]);
        }
        check.due("THE ORDER stays", x.place(0), 2);
        check.due("rules stay", x.rule(0), 2);
        check.due("CHANCES stay", x.batter(1, 5), 3);
        check.refused("THE LOG is empty", x, x.log(0, 0), 1);
        check.due("THE TAPE stays", x.size(), 20);
        check.due("again", x.begin(), 0);
    }

    // ---- chances, rules

    /** "shift(b, from, to, n): NONE: 1; 2 (n); 5 (one EVENT; he hasn't so many)." */
    private static void shiftRefused() {
        for (Edges edges : BOTH) {
            for (int b : new int[] {-1, 3, 8, 9, FAR[0], FAR[1]}) {
                edges.refused("shift(" + b + ", 0, 1, 1)", x -> x.shift(b, 0, 1, 1), 1);
                edges.refused("shift(" + b + ", 0, 0, 0): the BATTER is told first", x -> x.shift(b, 0, 0, 0), 1);
            }
            for (int e : new int[] {-1, 6, 7, 8, FAR[0], FAR[1]}) {
                edges.refused("shift(0, " + e + ", 0, 1)", x -> x.shift(0, e, 0, 1), 1);
                edges.refused("shift(0, 0, " + e + ", 1)", x -> x.shift(0, 0, e, 1), 1);
                edges.refused("shift(0, " + e + ", " + e + ", 21): the EVENT is told first", x -> x.shift(0, e, e, 21), 1);
            }
            for (int n : new int[] {-1, 0, 21, 22, FAR[0], FAR[1]}) {
                edges.refused("shift(2, 0, 1, " + n + ")", x -> x.shift(2, 0, 1, n), 2);
                edges.refused("shift(2, 0, 0, " + n + "): n is told first", x -> x.shift(2, 0, 0, n), 2);
                edges.refused("shift(2, 5, 0, " + n + "): n is told first", x -> x.shift(2, 5, 0, n), 2);
            }
            for (int e = 0; e < 6; e++) {
                int event = e;
                edges.refused("shift(2, " + e + ", " + e + ", 1): one EVENT", x -> x.shift(2, event, event, 1), 5);
                edges.refused("shift(2, " + e + ", " + e + ", 20): one EVENT", x -> x.shift(2, event, event, 20), 5);
            }
            none.refused("shift(0, 0, 1, 1) without a TEXT", x -> x.shift(0, 0, 1, 1), 1);
        }
    }

    /** "(.. he hasn't so many)": as many as he has are taken, one more is refused. */
    private static void shiftHowMany() {
        int[] ann = {8, 2, 4, 3, 2, 1};
        for (int from = 0; from < 6; from++) {
            for (int to = 0; to < 6; to++) {
                if (from != to) {
                    int f = from;
                    int t = to;
                    int n = ann[from];
                    few.act("shift(0, " + f + ", " + t + ", " + n + ")", x -> x.shift(0, f, t, n), ann[to] + n, 5);
                    few.refused("shift(0, " + f + ", " + t + ", " + (n + 1) + ")", x -> x.shift(0, f, t, n + 1), 5);
                    few.act("shift(0, " + f + ", " + t + ", 1)", x -> x.shift(0, f, t, 1), ann[to] + 1, 5);
                }
            }
        }
        // cy has none but OUT
        for (int from = 1; from < 6; from++) {
            int f = from;
            few.refused("shift(2, " + f + ", 0, 1) of none", x -> x.shift(2, f, 0, 1), 5);
        }
        few.act("shift(2, 0, 5, 20)", x -> x.shift(2, 0, 5, 20), 20, 5);
        few.refused("shift(0, 0, 5, 20) of 8", x -> x.shift(0, 0, 5, 20), 5);
    }

    /** "those of the other one then": all twenty to and fro; a tired one's CHANCES are shifted as they are without. */
    private static void shiftAll() {
        RunWorth x = Check.with("tire 1;" + NEVER);
        for (int i = 0; i < 30; i++) {
            x.event(1);
        }
        check.due("all twenty", x.shift(0, 0, 5, 20), 20);
        check.due("OUT", x.batter(0, 0), 0);
        check.due("HOMER", x.batter(0, 5), 20);
        check.refused("none is left", x, x.shift(0, 0, 5, 1), 5);
        check.refused("SINGLES of a tired thrower aren't his", x, x.shift(0, 2, 5, 1), 5);
        check.due("back", x.shift(0, 5, 0, 19), 19);
        check.due("the last one", x.shift(0, 5, 0, 1), 20);
        check.refused("none is left", x, x.shift(0, 5, 0, 1), 5);
        check.due("chance", x.chance(0, 0, 19), 1);
    }

    /** "become(what (0 .. 4), v (bounds as in I)): NONE: 1 (no TEXT, what); 2." */
    private static void becomeRefused() {
        for (Edges edges : BOTH) {
            for (int what : new int[] {-1, 5, 6, FAR[0], FAR[1]}) {
                edges.refused("become(" + what + ", 1)", x -> x.become(what, 1), 1);
                edges.refused("become(" + what + ", 100): what is told first", x -> x.become(what, 100), 1);
            }
            for (int what = 0; what < 5; what++) {
                int w = what;
                for (int v : new int[] {LEAST[what] - 1, MOST[what] + 1, -1, 100, FAR[0], FAR[1]}) {
                    edges.refused("become(" + w + ", " + v + ")", x -> x.become(w, v), 2);
                    none.refused("become(" + w + ", " + v + ") without a TEXT", x -> x.become(w, v), 1);
                }
            }
        }
        none.refused("become(0, 1) without a TEXT", x -> x.become(0, 1), 1);
    }

    /** "is v (bounds as in I): what it was": the least and the most are taken, also what it is already. */
    private static void becomeAtItsBounds() {
        int[] was = {1, 2, 1, 9, 7};
        for (int what = 0; what < 5; what++) {
            int w = what;
            few.act("become(" + w + ", least)", x -> x.become(w, LEAST[w]), was[w], 5);
            few.act("become(" + w + ", most)", x -> x.become(w, MOST[w]), was[w], 5);
            few.act("become(" + w + ", as it is)", x -> x.become(w, was[w]), was[w], 5);
            RunWorth x = Check.with(NEVER);
            for (int v = LEAST[w]; v <= MOST[w]; v++) {
                x.become(w, v);
                check.due("rule(" + w + ")", x.rule(w), v);
                check.due("become(" + w + ", " + v + ") again", x.become(w, v), v);
                for (int other = 0; other < 5; other++) {
                    if (other != w) {
                        check.due("the others stay", x.rule(other), new int[] {1, 2, 0, 14, 30}[other]);
                    }
                }
                if (v % 20 == 0) {
                    x = Check.with(NEVER);
                }
            }
        }
    }

    /** become, undo and a TEXT are felt by events, by what is to come, by the game. */
    private static void becomeIsFelt() {
        RunWorth x = Check.with("single 2;double 3;fly 1;" + NEVER);
        check.due("single 2", x.after(2, 0, 2, 2), 1);
        check.due("double 3", x.after(1, 0, 3, 2), 1);
        check.due("fly 1", x.plain(4, 0, 1, 0), 1);
        x.become(0, 1);
        x.become(1, 2);
        x.become(2, 0);
        check.due("single 1", x.after(2, 0, 2, 2), 0);
        check.due("double 2", x.after(1, 0, 3, 2), 0);
        check.due("fly 0", x.plain(4, 0, 1, 0), 0);
        x.event(4);
        check.due("fly 0", x.event(0), 0);
        x.undo();
        x.undo();
        x.undo();
        check.due("fly 1 again", x.plain(4, 0, 1, 0), 1);
        x.event(4);
        check.due("fly 1 again", x.event(0), 1);
        Check.take(x, NEVER);
        check.due("fly 0 without", x.plain(4, 0, 1, 0), 0);
        check.due("single 1 without", x.after(2, 0, 2, 2), 0);
        check.refused("a text that is refused", x, Check.take(x, "fly 1;single 2;" + NEVER + "?"), 4);
        check.due("fly 0 still", x.plain(4, 0, 1, 0), 0);
        check.due("single 1 still", x.after(2, 0, 2, 2), 0);
    }

    // ---- undone

    /** "undo(): NONE: 1 (no TEXT); 5." */
    private static void undoRefused() {
        none.refused("undo() without a TEXT", x -> x.undo(), 1);
        new Edges(check, () -> Check.with(NEVER)).refused("undo() of none", x -> x.undo(), 5);
        new Edges(check, () -> {
            RunWorth x = Edges.few();
            for (int i = 0; i < 4; i++) {
                check.due("undo()", x.undo(), 3 - i);
            }
            return x;
        }).refused("undo() of all four and one more", x -> x.undo(), 5);
        new Edges(check, () -> {
            RunWorth x = Edges.rich();
            for (int i = 0; i < 10; i++) {
                check.due("undo()", x.undo(), 9 - i);
            }
            return x;
        }).refused("undo() of ten and one more", x -> x.undo(), 5);
        few.taken("undo()", x -> x.undo(), 3);
        rich.taken("undo()", x -> x.undo(), 9);
    }

    /** "the latest 10 that weren't refused can be undone": of ten all, of eleven the first one no more. */
    private static void latestTen() {
        for (int acts = 1; acts <= 24; acts++) {
            RunWorth x = Check.with(ALWAYS);
            for (int i = 0; i < acts; i++) {
                x.event(5);
            }
            int can = Math.min(acts, 10);
            check.due("ACTS that can be undone", x.about(8), can);
            for (int i = can - 1; i >= 0; i--) {
                check.due("undo()", x.undo(), i);
                check.due("SCORE", x.about(4), acts - can + i);
            }
            check.refused("undo() once more", x, x.undo(), 5);
            check.due("SCORE", x.about(4), acts - can);
            check.due("ACTS", x.about(8), 0);
            x.event(5);
            check.due("a new ACT", x.about(8), 1);
            check.due("is undone", x.undo(), 0);
            check.due("SCORE", x.about(4), acts - can);
        }
    }

    /** "the latest first", of every sort of ACT. */
    private static void latestFirst() {
        RunWorth x = Check.with(Edges.THREE);
        x.event(1);
        x.play(5, 3, true);
        x.relieve();
        x.swap(0, 1);
        x.lay(2);
        x.better(3);
        x.shift(0, 0, 1, 3);
        x.become(3, 0);
        x.begin();
        x.event(5);
        check.due("ten", x.about(8), 10);
        x.undo();
        check.due("event undone", x.about(7), 0);
        x.undo();
        check.due("begin undone", x.about(7) > 3 ? 1 : 0, 1);
        x.undo();
        check.due("become undone", x.rule(3), 9);
        x.undo();
        check.due("shift undone", x.batter(0, 0), 8);
        x.undo();
        int[] best = {x.bestAt(2, 0), x.bestAt(2, 1), x.bestAt(2, 2)};
        for (int i = 0; i < 3; i++) {
            check.due("better undone", x.place(i), best[i]);
        }
        x.undo();
        check.due("lay undone", x.place(0), 1);
        check.due("lay undone", x.place(1), 0);
        x.undo();
        check.due("swap undone", x.place(0), 0);
        check.due("FACED by another thrower", x.about(6), 0);
        x.undo();
        check.due("relieve undone", x.about(6), 4);
        x.undo();
        check.due("play undone", x.about(6), 1);
        check.due("play undone", x.about(7), 1);
        check.due("the first one", x.undo(), 0);
        check.due("event undone", x.about(7), 0);
        check.due("all is as it was", x.about(5), 0);
    }

    /** "(calls that say so); the latest 10 that weren't refused": what is refused takes none of them away. */
    private static void refusedIsNoAct() {
        RunWorth x = Check.with(ALWAYS);
        for (int i = 0; i < 10; i++) {
            x.event(5);
            check.refused("event(9)", x, x.event(9), 1);
            check.refused("event(6)", x, x.event(6), 5);
            check.refused("play(0, 1)", x, x.play(0, 1, true), 2);
            check.refused("swap(0, 0)", x, x.swap(0, 0), 5);
            check.refused("lay(4)", x, x.lay(4), 2);
            check.refused("better(6)", x, x.better(6), 2);
            check.refused("shift(0, 0, 1, 1)", x, x.shift(0, 0, 1, 1), 5);
            check.refused("become(0, 3)", x, x.become(0, 3), 2);
            check.refused("text(1)", x, x.text(1), 2);
            check.refused("text(0)", x, x.text(0), 4);
            check.due("ACTS", x.about(8), i + 1);
        }
        for (int i = 9; i >= 0; i--) {
            check.due("undo()", x.undo(), i);
        }
        check.due("SCORE", x.about(4), 0);
    }

    /** "(a TEXT leaves none)": one that is taken; one that is refused leaves all. */
    private static void aTextLeavesNone() {
        RunWorth x = Edges.rich();
        x.text(0);
        check.due("a refused one leaves them", x.about(8), 10);
        Check.take(x, NEVER);
        check.due("a TEXT leaves none", x.about(8), 0);
        check.refused("undo()", x, x.undo(), 5);
        x.event(5);
        check.due("undo()", x.undo(), 0);
        check.due("about(0)", x.about(0), 1);
        check.refused("undo()", x, x.undo(), 5);
    }

    /** What is told is no ACT. */
    private static void whatIsNoAct() {
        Edges.Call[] calls = {
            x -> x.about(0), x -> x.rule(0), x -> x.batter(0, 0), x -> x.place(0), x -> x.coming(0), x -> x.chance(0, 0, 0),
            x -> x.after(0, 0, 0, 0), x -> x.plain(0, 0, 5, 0), x -> x.any(0, 0, 5, 0), x -> x.wise(0, 0, 5, 0),
            x -> x.choice(5, 0, 5), x -> x.chosen(5, 0, 5, 2, 0), x -> x.breaksEven(5, 0, 5), x -> x.table(0, 0, 5, 0),
            x -> x.worth(5, 0), x -> x.best(3, 0), x -> x.bestAt(3, 2), x -> x.exchanged(0, 2, 5), x -> x.log(2, 0),
            x -> x.added(2, 5, 0), x -> x.credit(2, 5, 0), x -> x.all(5, 0), x -> x.innings(77, 9, true, 0)
        };
        for (int i = 0; i < calls.length; i++) {
            few.told("told " + i, calls[i], calls[i].of(Edges.few()));
            rich.told("told " + i, calls[i], calls[i].of(Edges.rich()));
        }
    }

    /** "The latest ACT is undone: how many still can be": undo itself isn't one; it can't be undone. */
    private static void undoIsNoAct() {
        RunWorth x = Check.with(ALWAYS);
        x.event(5);
        x.event(1);
        check.due("undo()", x.undo(), 1);
        check.due("undo()", x.undo(), 0);
        check.due("SCORE", x.about(4), 0);
        check.refused("undo()", x, x.undo(), 5);
        check.due("an ACT behind it", x.event(4), 0);
        check.due("ACTS", x.about(8), 1);
        check.due("BASES", x.about(2), 4);
    }

    // ---- trouble, and calls in all

    /** "Of several the one that the call tells first": 1, then 2, then 5. */
    private static void troubleToldFirst() {
        few.refused("1 ahead of 2, 5: shift", x -> x.shift(3, 0, 0, 0), 1);
        few.refused("2 ahead of 5: shift", x -> x.shift(0, 0, 0, 0), 2);
        few.refused("2 ahead of 5, not so many: shift", x -> x.shift(0, 5, 0, 21), 2);
        few.refused("1 ahead of 5: swap", x -> x.swap(3, 3), 1);
        few.refused("1 ahead of 2: become", x -> x.become(5, 99), 1);
        few.refused("1 ahead of 2: innings", x -> x.innings(0, 0, false, 3), 1);
        none.refused("1 ahead of 2: play", x -> x.play(0, 0, false), 1);
        none.refused("1 ahead of 2: lay", x -> x.lay(0), 1);
        none.refused("1 ahead of 2: better", x -> x.better(0), 1);
        none.refused("1 ahead of 5: undo", x -> x.undo(), 1);
        none.refused("1 ahead of 5: swap", x -> x.swap(0, 0), 1);
        none.refused("1 ahead of 2, 5: shift", x -> x.shift(0, 0, 0, 0), 1);
        none.refused("1 ahead of 5: event", x -> x.event(6), 1);
    }

    /** "0 it wasn't": each number is told of the latest call alone. */
    private static void troubleOfEachCall() {
        RunWorth x = Edges.few();
        for (int i = 0; i < 3; i++) {
            check.due("5", x.swap(0, 0), -1);
            check.due("trouble()", x.trouble(), 5);
            check.due("0", x.about(0), 3);
            check.due("trouble()", x.trouble(), 0);
            check.due("2", x.play(0, 1, true), -1);
            check.due("trouble()", x.trouble(), 2);
            check.due("1", x.place(3), -1);
            check.due("trouble()", x.trouble(), 1);
            check.due("4", x.text(0), -1);
            check.due("trouble()", x.trouble(), 4);
            check.due("0", x.worth(1, 0), 0);
            check.due("trouble()", x.trouble(), 0);
        }
    }

    /** "An object is used for at most 512 calls": the last of them is answered like any other one. */
    private static void calls512() {
        Edges.Call[] last = {
            x -> x.about(6), x -> x.about(7), x -> x.event(5), x -> x.undo(), x -> x.play(1, 20, true), x -> x.relieve(),
            x -> x.log(39, 0), x -> x.all(1, 0), x -> x.best(3, 0), x -> x.better(5), x -> x.innings(1, 1, false, 1), x -> x.begin(),
            x -> x.chance(0, 5, 999), x -> x.size(), x -> x.trouble()
        };
        long[] due = {10140, 40, 1, 9, 20, 10140, 0, 40, 3, 0, 100, 10140, 20, 0, 0};
        for (int i = 0; i < last.length; i++) {
            RunWorth x = Check.with(ALWAYS);
            // four calls so far: size, two of feed, text; by 507 more of 20 BATTERS each 10140 are up
            for (int call = 5; call < 512; call++) {
                x.play(call, 20, call % 2 == 0);
            }
            check.due("call 512, " + i, last[i].of(x), due[i]);
        }
    }
}
