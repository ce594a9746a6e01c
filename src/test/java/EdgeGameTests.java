/** Boundaries of Terms IV and of promises 24 to 28, 30: each method's remark tells the sentence. */
public final class EdgeGameTests {
    private static final Check check = new Check("edges of the game");
    private static final Edges few = new Edges(check, Edges::few);
    private static final Edges rich = new Edges(check, Edges::rich);
    private static final Edges none = new Edges(check, Edges::empty);
    private static final Edges[] BOTH = {few, rich};
    private static final int[] FAR = {Integer.MIN_VALUE, Integer.MAX_VALUE};
    private static final String NEVER = "batter a 20 0 0 0 0 0";
    private static final String HALF = "batter a 10 0 0 0 0 10";
    private static final int LAST_SEED = 2147483646;

    public static void main(String[] args) {
        logRefused();
        logOfNoRow();
        latest40Events();
        logTellsWhatWasAhead();
        addedRefused();
        addedMayBeBelow0();
        addedWhereTheInningWasOver();
        addedAsTheyAreNow();
        creditRefused();
        creditOfNoRow();
        allRefused();
        allOfNoRow();
        allOfFortyRows();
        inningsRefused();
        inningsTillNAreOver();
        inningsOf100Batters();
        inningsMostOfOne();
        inningsEndedByASteal();
        inningsFromABeginning();
        playRefused();
        playOfOneToTwenty();
        drawOfSeeds();
        drawBelowChances();
        drawBelowTiredChances();
        drawBelowSteal();
        caughtAtTheThirdOut();
        wiseByTwo();
        thirdOutAndRound();
        check.end();
    }

    // ---- the log

    /** "log(i, what): NONE: 1 (what, too)": rows 0 to the last one, what 0 to 5 are taken. */
    private static void logRefused() {
        for (int i : new int[] {-1, 3, 39, 40, FAR[0], FAR[1]}) {
            few.refused("log(" + i + ", 0) of 3", x -> x.log(i, 0), 1);
        }
        for (int i : new int[] {-1, 40, 41, FAR[0], FAR[1]}) {
            rich.refused("log(" + i + ", 0) of 40", x -> x.log(i, 0), 1);
            none.refused("log(" + i + ", 0) without a TEXT", x -> x.log(i, 0), 1);
        }
        for (Edges edges : BOTH) {
            for (int what : new int[] {-1, 6, 7, FAR[0], FAR[1]}) {
                edges.refused("log(0, " + what + ")", x -> x.log(0, what), 1);
                edges.refused("log(2, " + what + ")", x -> x.log(2, what), 1);
            }
        }
        // ann's OUT, cy's TRIPLE, bo's WALK
        int[][] due = {{1, 1, 0, 1, 4, 1}, {2, 4, 0, 1, 0, 1}, {0, 0, 0, 1, 0, 0}};
        for (int i = 0; i < 3; i++) {
            for (int what = 0; what < 6; what++) {
                int row = i;
                int w = what;
                few.told("log(" + i + ", " + what + ")", x -> x.log(row, w), due[i][what]);
            }
        }
        rich.taken("log(39, 0)", x -> x.log(39, 0), Edges.rich().log(39, 0));
    }

    /** A log without rows: row 0 is refused. */
    private static void logOfNoRow() {
        Edges fresh = new Edges(check, () -> Check.with(NEVER));
        fresh.refused("log(0, 0)", x -> x.log(0, 0), 1);
        fresh.refused("added(0, 1, 0)", x -> x.added(0, 1, 0), 1);
        RunWorth x = Check.with(NEVER);
        x.event(5);
        check.due("log(0, 1)", x.log(0, 1), 5);
        check.refused("log(1, 1)", x, x.log(1, 1), 1);
        x.undo();
        check.refused("undone", x, x.log(0, 1), 1);
        x.event(5);
        x.begin();
        check.refused("begun anew", x, x.log(0, 1), 1);
    }

    /** "THE LOG: the latest 40 EVENTS": the 40th is the last that stands, by the 41st the first one falls out. */
    private static void latest40Events() {
        RunWorth x = Check.with(NEVER);
        x.event(4);
        for (int i = 2; i <= 40; i++) {
            x.event(5);
        }
        check.due("rows", x.about(7), 40);
        check.due("the first one", x.log(39, 1), 4);
        check.due("its RUNS", x.batter(0, 8), 40);
        check.refused("log(40, 1)", x, x.log(40, 1), 1);
        x.event(3);
        check.due("rows", x.about(7), 40);
        check.due("the latest one", x.log(0, 1), 3);
        check.due("the second one is the last", x.log(39, 1), 5);
        check.due("two RUNS by it", x.log(39, 2), 2);
        check.due("the first one is out", x.batter(0, 8), 40);
        check.refused("log(40, 1)", x, x.log(40, 1), 1);
        x.undo();
        check.due("it is there again", x.log(39, 1), 4);
        check.due("rows", x.about(7), 40);
        x.undo();
        check.due("rows", x.about(7), 39);
        check.due("the first one", x.log(38, 1), 4);
        check.refused("log(39, 1)", x, x.log(39, 1), 1);
        // round and round
        for (int i = 0; i < 90; i++) {
            x.event(i % 7 == 0 ? 4 : 5);
        }
        for (int i = 0; i < 40; i++) {
            check.due("row " + i, x.log(i, 1), (89 - i) % 7 == 0 ? 4 : 5);
        }
        x.play(3, 20, false);
        check.due("twenty came", x.log(20, 1), 5);
        check.due("twenty came", x.log(25, 1), 4);
    }

    /** "0 the BATTER (at a STEAL him who is up) .. 3 INNING, 4 BASES, 5 OUTS ahead of it". */
    private static void logTellsWhatWasAhead() {
        RunWorth x = Check.with(NEVER + ";batter b 20 0 0 0 0 0");
        int[] events = {0, 0, 2, 8, 2, 7, 1};
        int[][] due = {{0, 0, 0, 1, 0, 0}, {1, 0, 0, 1, 0, 1}, {0, 2, 0, 1, 0, 2}, {1, 8, 0, 1, 1, 2}, {1, 2, 0, 2, 0, 0},
            {0, 7, 0, 2, 1, 0}, {0, 1, 0, 2, 2, 0}};
        for (int i = 0; i < events.length; i++) {
            x.event(events[i]);
            for (int what = 0; what < 6; what++) {
                check.due("event " + i + ", " + what, x.log(0, what), due[i][what]);
            }
        }
    }

    // ---- what was added

    /** "added(i, k, what): NONE: 1 (what, too); 2 (k): trouble() tells it from -1." */
    private static void addedRefused() {
        for (Edges edges : BOTH) {
            for (int k : new int[] {-1, 0, 6, FAR[0], FAR[1]}) {
                edges.refused("added(0, " + k + ", 0)", x -> x.added(0, k, 0), 2);
                edges.refused("added(2, " + k + ", 1)", x -> x.added(2, k, 1), 2);
                edges.refused("added(0, " + k + ", 2): what is told first", x -> x.added(0, k, 2), 1);
                edges.refused("added(40, " + k + ", 0): the row is told first", x -> x.added(40, k, 0), 1);
                none.refused("added(0, " + k + ", 0) without a TEXT", x -> x.added(0, k, 0), 1);
            }
            for (int what : new int[] {-1, 2, FAR[0], FAR[1]}) {
                edges.refused("added(0, 1, " + what + ")", x -> x.added(0, 1, what), 1);
                edges.refused("added(0, 5, " + what + ")", x -> x.added(0, 5, what), 1);
            }
            for (int i : new int[] {-1, 40, FAR[0], FAR[1]}) {
                edges.refused("added(" + i + ", 1, 0)", x -> x.added(i, 1, 0), 1);
            }
        }
        few.refused("added(3, 1, 0) of 3", x -> x.added(3, 1, 0), 1);
        few.taken("added(2, 1, 1)", x -> x.added(2, 1, 1), Edges.few().added(2, 1, 1));
        rich.taken("added(39, 5, 1)", x -> x.added(39, 5, 1), Edges.rich().added(39, 5, 1));
    }

    private static void added(String sentence, RunWorth x, int i, int k, long above, long below) {
        check.due(sentence + ", above", x.added(i, k, 0), above);
        check.due("it isn't refused", x.trouble(), 0);
        check.due("where()", x.where(), -1);
        check.due(sentence + ", below", x.added(i, k, 1), below);
    }

    /** "above (may be below 0), below": -1 that is a number, 0 by 1, a whole number, below always above 0. */
    private static void addedMayBeBelow0() {
        RunWorth x = Check.with("batter a 0 0 0 0 0 20");
        x.event(1);
        added("one on first, by 1", x, 0, 1, 1, 1);
        x.event(8);
        added("it is gone, by 1", x, 0, 1, -1, 1);
        x.event(0);
        added("OUT, by 1: as much is to come", x, 0, 1, 0, 1);
        x.event(0);
        added("the third one, by 1", x, 0, 1, -1, 1);
        added("the third one, by 5", x, 0, 5, -5, 1);
        x.event(4);
        x.event(5);
        added("two come home, one fewer is on, by 1", x, 0, 1, 1, 1);
        x = Check.with(HALF);
        x.event(0);
        added("OUT, by 1", x, 0, 1, 0, 1);
        added("OUT, by 3: 1/2 of what an eighth bars", x, 0, 3, -1, 8);
        x.event(0);
        x.event(0);
        added("the third one, by 1", x, 0, 1, -1, 2);
        added("the third one, by 5", x, 0, 5, -31, 32);
        x = Check.with("batter a 19 0 0 0 0 1");
        x.event(0);
        x.event(0);
        x.event(0);
        added("the least that is lost", x, 0, 1, -1, 20);
        added("it is none of the first", x, 2, 1, 0, 1);
        check.due("all, above", x.all(1, 0), -1);
        check.due("all, below", x.all(1, 1), 20);
        check.due("credit, above", x.credit(0, 1, 0), -1);
        check.due("credit, below", x.credit(0, 1, 1), 20);
        check.due("it isn't refused", x.trouble(), 0);
    }

    /** "(0 where the INNING was over)", by an OUT and by a CAUGHT; not that of the new INNING. */
    private static void addedWhereTheInningWasOver() {
        RunWorth x = Check.with(HALF);
        x.event(0);
        x.event(0);
        x.event(1);
        x.event(8);
        check.due("INNING", x.about(1), 2);
        added("CAUGHT, by 1: 1/2, and 1/2 of him on first", x, 0, 1, -1, 1);
        x.event(0);
        added("the first of the next one", x, 0, 1, 0, 1);
        x.event(0);
        x.event(0);
        added("the third OUT", x, 0, 1, -1, 2);
    }

    /** "(by CHANCES as they are NOW)"; FACED, who is NEXT don't matter. */
    private static void addedAsTheyAreNow() {
        RunWorth x = Check.with(HALF + ";tire 1");
        x.event(1);
        added("1/2 of him on first", x, 0, 1, 1, 2);
        x.shift(0, 0, 5, 10);
        added("always", x, 0, 1, 1, 1);
        x.undo();
        added("undone", x, 0, 1, 1, 2);
        x.shift(0, 5, 0, 10);
        added("never", x, 0, 1, 0, 1);
        x.event(1);
        x.event(1);
        added("the third walk, by a row behind it", x, 2, 1, 0, 1);
        x.shift(0, 0, 1, 20);
        added("he walks home now who was third", x, 0, 1, 1, 1);
        added("nobody was third yet", x, 1, 1, 0, 1);
    }

    /** "credit(b, k, what): .. NONE likewise." */
    private static void creditRefused() {
        for (Edges edges : BOTH) {
            for (int k : new int[] {-1, 0, 6, FAR[0], FAR[1]}) {
                edges.refused("credit(0, " + k + ", 0)", x -> x.credit(0, k, 0), 2);
                edges.refused("credit(2, " + k + ", 1)", x -> x.credit(2, k, 1), 2);
                edges.refused("credit(0, " + k + ", -1): what is told first", x -> x.credit(0, k, -1), 1);
                edges.refused("credit(3, " + k + ", 0): the BATTER is told first", x -> x.credit(3, k, 0), 1);
                none.refused("credit(0, " + k + ", 0) without a TEXT", x -> x.credit(0, k, 0), 1);
            }
            for (int what : new int[] {-1, 2, FAR[0], FAR[1]}) {
                edges.refused("credit(0, 1, " + what + ")", x -> x.credit(0, 1, what), 1);
                edges.refused("credit(2, 5, " + what + ")", x -> x.credit(2, 5, what), 1);
            }
            for (int b : new int[] {-1, 3, 8, 9, FAR[0], FAR[1]}) {
                edges.refused("credit(" + b + ", 1, 0)", x -> x.credit(b, 1, 0), 1);
            }
        }
        few.taken("credit(2, 5, 1)", x -> x.credit(2, 5, 1), Edges.few().credit(2, 5, 1));
    }

    /** "ADDED by all rows of a BATTER together": 0 by 1 of none; -1 is a number. */
    private static void creditOfNoRow() {
        RunWorth x = Check.with(HALF + ";batter b 10 0 0 0 0 10;batter c 10 0 0 0 0 10");
        for (int k = 1; k <= 5; k++) {
            check.due("none, above", x.credit(2, k, 0), 0);
            check.due("none, below", x.credit(2, k, 1), 1);
        }
        for (int i = 0; i < 18; i++) {
            x.event(i % 3 == 2 ? 0 : 5);
        }
        check.due("two thirds of c's were the third OUT", x.credit(2, 1, 0), -1);
        check.due("it isn't refused", x.trouble(), 0);
        check.due("below", x.credit(2, 1, 1), 1);
        check.due("a's", x.credit(0, 1, 0), 6);
        check.due("b's", x.credit(1, 1, 0), 6);
        check.due("all", x.all(1, 0), 11);
    }

    /** "all(k, what): NONE: 1 (no TEXT, what); 2, likewise." */
    private static void allRefused() {
        for (Edges edges : BOTH) {
            for (int k : new int[] {-1, 0, 6, FAR[0], FAR[1]}) {
                edges.refused("all(" + k + ", 0)", x -> x.all(k, 0), 2);
                edges.refused("all(" + k + ", 2): what is told first", x -> x.all(k, 2), 1);
                none.refused("all(" + k + ", 0) without a TEXT", x -> x.all(k, 0), 1);
            }
            for (int what : new int[] {-1, 2, FAR[0], FAR[1]}) {
                edges.refused("all(1, " + what + ")", x -> x.all(1, what), 1);
                edges.refused("all(5, " + what + ")", x -> x.all(5, what), 1);
            }
        }
        few.taken("all(1, 1)", x -> x.all(1, 1), Edges.few().all(1, 1));
        rich.taken("all(5, 0)", x -> x.all(5, 0), Edges.rich().all(5, 0));
    }

    /** "ADDED by all rows of THE LOG together": 0 by 1 of none, of a game begun anew. */
    private static void allOfNoRow() {
        RunWorth x = Check.with(HALF);
        for (int k = 1; k <= 5; k++) {
            check.due("none, above", x.all(k, 0), 0);
            check.due("none, below", x.all(k, 1), 1);
            check.due("trouble()", x.trouble(), 0);
        }
        x.event(5);
        check.due("one, above", x.all(5, 0), 1);
        x.begin();
        check.due("none, above", x.all(5, 0), 0);
        check.due("none, below", x.all(5, 1), 1);
    }

    /** THE LOG is full: of 41 homers 40 are told together; rows in a row come to what was first and last. */
    private static void allOfFortyRows() {
        RunWorth x = Check.with(HALF);
        for (int i = 1; i <= 42; i++) {
            x.event(5);
            check.due("all(3, 0) of " + i, x.all(3, 0), Math.min(i, 40));
            check.due("credit(0, 5, 0) of " + i, x.credit(0, 5, 0), Math.min(i, 40));
        }
        check.due("below", x.all(3, 1), 1);
    }

    // ---- innings on paper

    /** "innings(seed (1 .. 2,147,483,646), n (1 .. 9), wise, what): NONE: 1 (no TEXT, what); 2." */
    private static void inningsRefused() {
        for (Edges edges : BOTH) {
            for (int seed : new int[] {0, -1, LAST_SEED + 1, FAR[0]}) {
                edges.refused("innings(" + seed + ", 1, false, 0)", x -> x.innings(seed, 1, false, 0), 2);
                edges.refused("innings(" + seed + ", 9, true, 2)", x -> x.innings(seed, 9, true, 2), 2);
                edges.refused("innings(" + seed + ", 1, true, 3): what is told first", x -> x.innings(seed, 1, true, 3), 1);
            }
            for (int n : new int[] {-1, 0, 10, 11, FAR[0], FAR[1]}) {
                edges.refused("innings(1, " + n + ", false, 0)", x -> x.innings(1, n, false, 0), 2);
                edges.refused("innings(1, " + n + ", true, -1): what is told first", x -> x.innings(1, n, true, -1), 1);
                none.refused("innings(1, " + n + ", true, 0) without a TEXT", x -> x.innings(1, n, true, 0), 1);
            }
            for (int what : new int[] {-1, 3, FAR[0], FAR[1]}) {
                edges.refused("innings(1, 1, false, " + what + ")", x -> x.innings(1, 1, false, what), 1);
            }
            for (int what = 0; what < 3; what++) {
                int w = what;
                for (int seed : new int[] {1, 2, LAST_SEED - 1, LAST_SEED}) {
                    edges.told("innings(" + seed + ", 9, true, " + w + ") is no ACT", x -> x.innings(seed, 9, true, w),
                        (edges == few ? Edges.few() : Edges.rich()).innings(seed, 9, true, w));
                }
            }
        }
        RunWorth x = Check.with(NEVER);
        check.due("n 1", x.innings(1, 1, false, 1), 3);
        check.due("n 9", x.innings(LAST_SEED, 9, false, 1), 27);
        check.due("trouble()", x.trouble(), 0);
    }

    private static void innings(String sentence, RunWorth x, int n, int runs, int batters, int most) {
        check.due(sentence + ", RUNS", x.innings(1, n, false, 0), runs);
        check.due(sentence + ", BATTERS", x.innings(1, n, false, 1), batters);
        check.due(sentence + ", most", x.innings(1, n, false, 2), most);
        check.due("trouble()", x.trouble(), 0);
    }

    /** "till n (1 .. 9) INNINGS are over". */
    private static void inningsTillNAreOver() {
        RunWorth x = Check.with("tire 99;" + NEVER + ";batter b 0 0 0 0 0 20");
        for (int n = 1; n <= 9; n++) {
            // an INNING ends with the third OUT of a; b hits two in the first one, three in each that follows
            int homers = 3 * n - 1;
            innings("n " + n, x, n, homers, 3 * n + homers, n == 1 ? 2 : 3);
        }
    }

    /** Of seven the one at that place is always out: the fifteenth OUT is that of the batter 99 + place. */
    private static RunWorth sevenWithOutAt(int place) {
        StringBuilder s = new StringBuilder("tire 99");
        for (int b = 0; b < 7; b++) {
            s.append(";batter ").append((char) ('a' + b)).append(b == place ? " 20 0 0 0 0 0" : " 0 0 0 0 0 20");
        }
        return Check.with(s.toString());
    }

    /** "(or 100 BATTERS were up)": 5 INNINGS are over by the 99th, by the 100th, or aren't yet. */
    private static void inningsOf100Batters() {
        innings("over by the 99th", sevenWithOutAt(0), 5, 84, 99, 18);
        innings("over by the 100th", sevenWithOutAt(1), 5, 85, 100, 18);
        innings("not yet over", sevenWithOutAt(2), 5, 86, 100, 18);
        innings("not yet over", sevenWithOutAt(0), 6, 85, 100, 18);
        innings("nobody is ever out", Check.with("batter a 0 0 0 0 0 20"), 1, 100, 100, 100);
        innings("nobody is ever out", Check.with("batter a 0 20 0 0 0 0"), 9, 97, 100, 97);
        innings("nobody comes home", Check.with("batter a 0 0 0 20 0 0;double 2"), 1, 99, 100, 99);
    }

    /** "2 the most RUNS in one INNING": the first, one between, the last one, one that is cut. */
    private static void inningsMostOfOne() {
        RunWorth x = Check.with("batter a 0 0 0 0 0 20;batter b 20 0 0 0 0 0;batter c 20 0 0 0 0 0");
        // a b c a b: 2; c a b c: 1; a b c a b: 2 ..
        innings("the first", x, 1, 2, 5, 2);
        innings("the first of two", x, 2, 3, 9, 2);
        innings("the first and the last", x, 3, 5, 14, 2);
        x.swap(0, 2);
        // c b a c: 1; b a c b: 1; a c b a c: 2
        innings("of one", x, 1, 1, 4, 1);
        innings("of two", x, 2, 2, 8, 1);
        innings("the last of three", x, 3, 4, 13, 2);
        innings("none", Check.with(NEVER), 9, 0, 27, 0);
    }

    /** "1 BATTERS (each time one was up, also if a STEAL ended the INNING)". */
    private static void inningsEndedByASteal() {
        // OUTS 2, a runner on first: SINGLES alone bring him home from second, so he steals, by draws below 7
        RunWorth x = Check.with("steal 7;batter a 14 0 6 0 0 0;batter b 14 0 6 0 0 0;batter c 10 0 10 0 0 0");
        check.due("7, 9: OUT; 13: a SINGLE; 18: CAUGHT", x.innings(1, 1, true, 1), 4);
        check.due("not wise: 7, 9: OUT; 13: SINGLE; 18: SINGLE; 10: OUT", x.innings(1, 1, false, 1), 5);
        check.due("he comes up again: 10, 12, 4: OUT", x.innings(1, 2, true, 1), 7);
    }

    /** "On paper, from a game's beginning with THE ORDER": FACED 0, INNING 1, no runners; CHANCES, rules as NOW. */
    private static void inningsFromABeginning() {
        RunWorth x = Check.with("tire 2;batter a 20 0 0 0 0 0;batter b 20 0 0 0 0 0");
        int before = x.innings(5, 2, false, 1);
        x.event(5);
        x.event(0);
        x.event(4);
        x.event(1);
        check.due("whatever stands", x.innings(5, 2, false, 1), before);
        check.due("whatever stands", x.innings(5, 1, false, 0), 0);
        stands(x, 1, 5, 1, 1, 0, 4, 4, 4);
        x.shift(0, 0, 5, 20);
        check.due("CHANCES as NOW", x.innings(5, 1, false, 0) > 0 ? 1 : 0, 1);
        x.begin();
        int wise = x.innings(8, 9, true, 0);
        x.event(2);
        check.due("whoever is NEXT", x.innings(8, 9, true, 0), wise);
    }

    /** INNING, BASES, OUTS, SCORE, NEXT, FACED, rows of the log, ACTS. */
    private static void stands(RunWorth x, int... due) {
        for (int i = 0; i < due.length; i++) {
            check.due("about(" + (i + 1) + ")", x.about(i + 1), due[i]);
        }
    }

    // ---- what is played

    /** "play(seed, n, wise): PLAYED by a seed, n BATTERS (1 .. 20): .. NONE: 1 (no TEXT); 2." */
    private static void playRefused() {
        for (Edges edges : BOTH) {
            for (int seed : new int[] {0, -1, LAST_SEED + 1, FAR[0]}) {
                edges.refused("play(" + seed + ", 1, false)", x -> x.play(seed, 1, false), 2);
                edges.refused("play(" + seed + ", 20, true)", x -> x.play(seed, 20, true), 2);
                none.refused("play(" + seed + ", 1, true) without a TEXT", x -> x.play(seed, 1, true), 1);
            }
            for (int n : new int[] {-1, 0, 21, FAR[0], FAR[1]}) {
                edges.refused("play(1, " + n + ", false)", x -> x.play(1, n, false), 2);
                edges.refused("play(2147483646, " + n + ", true)", x -> x.play(LAST_SEED, n, true), 2);
            }
        }
        none.refused("play(1, 1, false) without a TEXT", x -> x.play(1, 1, false), 1);
        few.act("play(2147483646, 20, true)", x -> x.play(LAST_SEED, 20, true), Edges.few().play(LAST_SEED, 20, true), 5);
        few.act("play(1, 1, false)", x -> x.play(1, 1, false), Edges.few().play(1, 1, false), 5);
        rich.act("play(1, 20, false)", x -> x.play(1, 20, false), Edges.rich().play(1, 20, false), 10);
    }

    /** "n BATTERS (1 .. 20): RUNS": one brings one RUN, twenty bring twenty. */
    private static void playOfOneToTwenty() {
        for (int n = 1; n <= 20; n++) {
            RunWorth x = Check.with("batter a 0 0 0 0 0 20");
            check.due("play(1, " + n + ", false)", x.play(1, n, false), n);
            check.due("trouble()", x.trouble(), 0);
            stands(x, 1, 0, 0, n, 0, n, n, 1);
            check.due("undone as one", x.undo(), 0);
            stands(x, 1, 0, 0, 0, 0, 0, 0, 0);
        }
    }

    private static long drawn(long x) {
        return 16807 * x % 2147483647L;
    }

    /** A seed by which the first DRAW modulo 20 is that, and the second one, too. */
    private static int seedOf(int first, int second) {
        for (int seed = 1; seed < 100000; seed++) {
            long one = drawn(seed);
            if (one % 20 == first && drawn(one) % 20 == second) {
                return seed;
            }
        }
        return -1;
    }

    /** "x, at first a seed, becomes 16,807 times x modulo 2,147,483,647": by the seed 1, by the last one. */
    private static void drawOfSeeds() {
        // 16807 is 7 modulo 20; 2147483647 less 16807 is 0
        for (int out = 0; out <= 20; out++) {
            RunWorth x = Check.with("batter a " + out + " 0 0 0 0 " + (20 - out));
            check.due("seed 1", x.play(1, 1, false), 7 < out ? 0 : 1);
            check.due("the last seed", x.play(LAST_SEED, 1, false), out > 0 ? 0 : 1);
        }
        // ten thousand DRAWS from 1 on: 1043618065
        long x = 1;
        for (int i = 0; i < 10000; i++) {
            x = drawn(x);
        }
        check.due("as it is known", x, 1043618065);
        for (int seed : new int[] {1, 99, 65536, 1000000007, 2147466839, 2147466840, LAST_SEED - 1, LAST_SEED}) {
            RunWorth game = Check.with("tire 99;batter a 3 4 3 4 3 3");
            game.play(seed, 20, false);
            x = seed;
            for (int i = 19; i >= 0; i--) {
                x = drawn(x);
                int d = (int) (x % 20);
                int due = d < 3 ? 0 : d < 7 ? 1 : d < 10 ? 2 : d < 14 ? 3 : d < 17 ? 4 : 5;
                check.due("DRAW " + (20 - i) + " from " + seed, game.log(i, 1), due);
            }
        }
    }

    /** "EVENT 0, if below CHANCES of OUT, 1, if below these and those of WALK together, and so on". */
    private static void drawBelowChances() {
        int[][] sorts = {{8, 2, 4, 3, 2, 1}, {1, 1, 1, 1, 1, 15}, {0, 0, 20, 0, 0, 0}, {0, 10, 0, 0, 10, 0}, {19, 0, 0, 0, 0, 1},
            {0, 0, 0, 0, 0, 20}, {20, 0, 0, 0, 0, 0}, {5, 0, 5, 0, 5, 5}};
        for (int[] sort : sorts) {
            StringBuilder s = new StringBuilder("tire 99;batter a");
            for (int chance : sort) {
                s.append(' ').append(chance);
            }
            for (int d = 0; d < 20; d++) {
                RunWorth x = Check.with(s.toString());
                x.play(seedOf(d, 0), 1, false);
                int due = 0;
                int together = sort[0];
                while (d >= together) {
                    due++;
                    together += sort[due];
                }
                check.due("a DRAW of " + d + s, x.log(0, 1), due);
            }
        }
    }

    /** "CHANCES of a BATTER at FACED f": the same DRAW is OUT at FACED tire - 1, a SINGLE at tire. */
    private static void drawBelowTiredChances() {
        for (int faced = 0; faced <= 12; faced++) {
            RunWorth x = Check.with("tire 5;batter a 10 3 2 2 2 1");
            for (int i = 0; i < faced; i++) {
                x.event(5);
            }
            int less = faced / 5;
            int[] events = new int[20];
            for (int d = 0; d < 20; d++) {
                int out = 10 - less;
                events[d] = d < out ? 0 : d < out + 3 ? 1 : d < 15 ? 2 : d < 17 ? 3 : d < 19 ? 4 : 5;
            }
            for (int d = 0; d < 20; d++) {
                x.play(seedOf(d, 0), 1, false);
                check.due("a DRAW of " + d + " at FACED " + faced, x.log(0, 1), events[d]);
                x.undo();
            }
        }
    }

    /** "a STEAL: a DRAW modulo 20 below steal: STOLEN, else CAUGHT". */
    private static void drawBelowSteal() {
        for (int steal = 0; steal <= 20; steal++) {
            for (int d = 0; d < 20; d++) {
                // always out: with a runner on first and two to come STEAL is chosen by any steal but 0
                RunWorth x = Check.with(NEVER + ";steal " + steal);
                x.event(1);
                x.play(seedOf(d, d), 1, true);
                if (steal == 0) {
                    check.due("by 0 none is tried", x.about(7), 2);
                    check.due("HIT", x.log(0, 1), 0);
                } else {
                    check.due("a STEAL, then another", x.about(7), 3);
                    check.due("a DRAW of " + d + " by " + steal, x.log(1, 1), d < steal ? 7 : 8);
                    check.due("then BUNT or HIT", x.log(0, 1), d < steal ? 6 : 0);
                }
            }
        }
    }

    /** "(at the third OUT that was all of that one of the n)": he is NEXT still, FACED as it was; a second one goes on. */
    private static void caughtAtTheThirdOut() {
        for (int n = 1; n <= 2; n++) {
            RunWorth x = Check.with("steal 7;batter a 14 0 6 0 0 0;batter b 14 0 6 0 0 0");
            x.event(0);
            x.event(0);
            x.event(2);
            check.due("STEAL", x.choice(1, 2, 2), 2);
            check.due("NEXT", x.about(5), 1);
            check.due("CAUGHT by a DRAW of 7, then OUT by 9", x.play(1, n, true), 0);
            stands(x, 2, 0, n - 1, 0, 2 - n, n + 2, n + 3, 4);
            check.due("CAUGHT", x.log(n - 1, 1), 8);
        }
        // by a DRAW below it is STOLEN, and he hits with OUTS 2
        RunWorth x = Check.with("steal 8;batter a 14 0 6 0 0 0;batter b 14 0 6 0 0 0");
        x.event(0);
        x.event(0);
        x.event(2);
        x.play(1, 1, true);
        check.due("STOLEN", x.log(1, 1), 7);
        check.due("OUT by 9", x.log(0, 1), 0);
        stands(x, 2, 0, 0, 0, 0, 4, 5, 4);
    }

    /** "(wise: the choice of WISE by 2; else HIT)": by 1 it would be another one, by 3, too. */
    private static void wiseByTwo() {
        RunWorth x = Check.with(NEVER);
        x.event(1);
        check.due("by 1 HIT", x.choice(1, 0, 1), 0);
        check.due("by 2 STEAL", x.choice(1, 0, 2), 2);
        x.play(1, 1, true);
        check.due("STOLEN", x.log(1, 1), 7);
        x.undo();
        x.play(1, 1, false);
        check.due("else HIT", x.log(0, 1), 0);
        check.due("alone", x.about(7), 2);
        // a and b are out, c hits: he on second comes home by two BUNTS, or by a BUNT and c's SINGLE
        x = Check.with("batter a 20 0 0 0 0 0;batter b 20 0 0 0 0 0;batter c 0 0 20 0 0 0");
        x.event(5);
        x.event(5);
        x.event(3);
        check.due("by 1 HIT", x.choice(2, 0, 1), 0);
        check.due("by 2 BUNT", x.choice(2, 0, 2), 1);
        check.due("by 3 HIT", x.choice(2, 0, 3), 0);
        x.play(1, 1, true);
        check.due("BUNT", x.log(0, 1), 6);
    }

    /** "behind 0 .. 6 the next one of THE ORDER (round) is NEXT, FACED 1 more; at the third OUT INNING is 1 more". */
    private static void thirdOutAndRound() {
        for (int e = 0; e < 9; e++) {
            RunWorth x = Check.with(NEVER + ";batter b 20 0 0 0 0 0");
            x.event(1);
            x.event(e);
            boolean steal = e > 6;
            check.due("NEXT behind " + e, x.about(5), steal ? 1 : 0);
            check.due("FACED behind " + e, x.about(6), steal ? 1 : 2);
            check.due("INNING behind " + e, x.about(1), 1);
        }
        for (int outs = 0; outs < 3; outs++) {
            RunWorth x = Check.with(NEVER);
            for (int i = 0; i < outs; i++) {
                x.event(0);
            }
            x.event(1);
            x.event(8);
            check.due("INNING", x.about(1), outs == 2 ? 2 : 1);
            check.due("OUTS", x.about(3), (outs + 1) % 3);
            check.due("BASES", x.about(2), 0);
        }
    }
}
