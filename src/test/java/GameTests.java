/** Promises 24 to 32 and 36 to 38: the log and what was added, play and innings; events, acts, undo. */
public final class GameTests {
    private static final Check check = new Check("the game");
    private static final String NEVER = "batter a 20 0 0 0 0 0";
    private static final String HALF = "batter a 10 0 0 0 0 10";
    private static final String ALL_SORTS = "tire 99;batter a 8 2 4 3 2 1";

    public static void main(String[] args) {
        withoutText();
        events();
        log();
        logOfForty();
        added();
        addedAsOfNow();
        credit();
        addedRefused();
        play();
        playWisely();
        playCaught();
        innings();
        inningsOfHundred();
        inningsOnPaper();
        playRefused();
        relieveAndBegin();
        shift();
        become();
        undo();
        check.end();
    }

    private static void withoutText() {
        RunWorth x = new RunWorth();
        check.refused("P24 log", x, x.log(0, 0), 1);
        check.refused("P25 added", x, x.added(0, 0, 0), 1);
        check.refused("P26 credit", x, x.credit(0, 0, 0), 1);
        check.refused("P27 all", x, x.all(0, 0), 1);
        check.refused("P28 innings", x, x.innings(0, 0, true, 0), 1);
        check.refused("P29 event", x, x.event(6), 1);
        check.refused("P30 play", x, x.play(0, 0, true), 1);
        check.refused("P31 relieve", x, x.relieve(), 1);
        check.refused("P32 begin", x, x.begin(), 1);
        check.refused("P36 shift", x, x.shift(0, 0, 0, 0), 1);
        check.refused("P37 become", x, x.become(0, 0), 1);
        check.refused("P38 undo", x, x.undo(), 1);
    }

    /** INNING, BASES, OUTS, SCORE, NEXT, FACED, rows of the log. */
    private static void stands(String call, RunWorth x, int... due) {
        for (int i = 0; i < due.length; i++) {
            check.due(call + " about(" + (i + 1) + ")", x.about(i + 1), due[i]);
        }
    }

    private static void events() {
        RunWorth x = Check.with(NEVER + ";batter b 0 0 0 0 0 20");
        check.refused("P29 a bunt without a runner", x, x.event(6), 5);
        check.refused("P29 event 9", x, x.event(9), 1);
        check.refused("P29 event -1", x, x.event(-1), 1);
        stands("P29 refused", x, 1, 0, 0, 0, 0, 0, 0);
        check.due("P29 event(2)", x.event(2), 0);
        stands("P29 single", x, 1, 1, 0, 0, 1, 1, 1);
        check.due("P29 event(7)", x.event(7), 0);
        stands("P29 stolen", x, 1, 2, 0, 0, 1, 1, 2);
        check.refused("P29 stolen", x, x.event(7), 5);
        check.refused("P29 caught", x, x.event(8), 5);
        check.due("P29 event(4)", x.event(4), 1);
        stands("P29 triple", x, 1, 4, 0, 1, 0, 2, 3);
        check.due("P29 event(6)", x.event(6), 1);
        stands("P29 bunt", x, 1, 0, 1, 2, 1, 3, 4);
        check.due("P29 event(1)", x.event(1), 0);
        check.due("P29 event(8)", x.event(8), 0);
        stands("P29 caught", x, 1, 0, 2, 2, 0, 4, 6);
        check.due("P29 event(1)", x.event(1), 0);
        check.refused("P29 a bunt with two outs", x, x.event(6), 5);
        check.due("P29 event(8)", x.event(8), 0);
        stands("P29 caught, the third out", x, 2, 0, 0, 2, 1, 5, 8);
        check.due("P29 event(3)", x.event(3), 0);
        check.due("P29 event(0)", x.event(0), 0);
        check.due("P29 event(0)", x.event(0), 0);
        check.due("P29 event(0)", x.event(0), 0);
        stands("P29 the third out", x, 3, 0, 0, 2, 1, 9, 12);
        check.due("P29 event(5)", x.event(5), 1);
        stands("P29 homer", x, 3, 0, 0, 3, 0, 10, 13);
    }

    private static void row(RunWorth x, int i, int... due) {
        for (int what = 0; what < 6; what++) {
            check.due("P24 log(" + i + "," + what + ")", x.log(i, what), due[what]);
        }
    }

    private static void log() {
        RunWorth x = Check.with(NEVER + ";batter b 0 0 0 0 0 20");
        check.refused("P24 none yet", x, x.log(0, 0), 1);
        x.event(4);
        x.event(2);
        x.event(7);
        x.event(0);
        x.event(0);
        x.event(0);
        x.event(1);
        row(x, 0, 1, 1, 0, 2, 0, 0);
        row(x, 1, 0, 0, 0, 1, 2, 2);
        row(x, 3, 0, 0, 0, 1, 2, 0);
        row(x, 4, 0, 7, 0, 1, 1, 0);
        row(x, 5, 1, 2, 1, 1, 4, 0);
        row(x, 6, 0, 4, 0, 1, 0, 0);
        check.refused("P24 log(7,0)", x, x.log(7, 0), 1);
        check.refused("P24 log(-1,0)", x, x.log(-1, 0), 1);
        check.refused("P24 log(0,6)", x, x.log(0, 6), 1);
        check.refused("P24 log(0,-1)", x, x.log(0, -1), 1);
    }

    private static void logOfForty() {
        RunWorth x = Check.with(NEVER);
        for (int i = 1; i <= 45; i++) {
            x.event(i == 5 ? 4 : i % 2 == 0 ? 5 : 3);
            check.due("P6 rows", x.about(7), Math.min(i, 40));
        }
        check.due("P8 rows", x.batter(0, 7), 40);
        check.due("P8 runs", x.batter(0, 8), 40);
        check.due("P24 the latest", x.log(0, 1), 3);
        check.due("P24 the oldest of forty", x.log(39, 1), 5);
        check.due("P24 the oldest", x.log(39, 2), 2);
        check.refused("P24 log(40,0)", x, x.log(40, 0), 1);
        check.due("P4 score", x.about(4), 44);
        x.undo();
        check.due("P38 the row that fell out is there again", x.log(39, 1), 4);
        check.due("P38 rows", x.about(7), 40);
    }

    private static void added(RunWorth x, int i, int k, long above, long below) {
        check.fraction("P25 added(" + i + "," + k + ")", x.added(i, k, 0), x.added(i, k, 1), above, below);
        check.due("P41 tells -1 from a refusal", x.trouble(), 0);
    }

    private static void added() {
        RunWorth x = Check.with(HALF);
        x.event(1);
        added(x, 0, 1, 1, 2);
        x.event(8);
        added(x, 0, 1, -1, 2);
        x.event(0);
        // of OUTS 1 to 2 by 2: 1/2 and one more 1/4, less 1
        added(x, 0, 2, -1, 4);
        added(x, 0, 1, 0, 1);
        x.event(5);
        added(x, 0, 5, 1, 1);
        x.event(0);
        // the inning was over: 1/2 less; by 2: 1/2 + 1/4 less
        added(x, 0, 1, -1, 2);
        added(x, 0, 2, -3, 4);
        x = Check.with("batter a 0 0 0 0 0 20");
        x.event(0);
        x.event(0);
        x.event(0);
        added(x, 0, 1, -1, 1);
        added(x, 0, 5, -5, 1);
    }

    private static void addedAsOfNow() {
        RunWorth x = Check.with(HALF);
        x.event(1);
        added(x, 0, 1, 1, 2);
        x.shift(0, 0, 5, 5);
        added(x, 0, 1, 3, 4);
        x.shift(0, 5, 1, 15);
        added(x, 0, 1, 0, 1);
        x.shift(0, 1, 4, 10);
        added(x, 0, 1, 1, 2);
        x.shift(0, 4, 2, 10);
        x.event(4);
        added(x, 0, 1, 3, 2);
        // a fly brings him home from third now, who could not before
        x.become(2, 1);
        added(x, 0, 1, 7, 4);
        x.relieve();
        x.begin();
        check.refused("P32 the log is empty", x, x.added(0, 1, 0), 1);
    }

    private static void credit() {
        RunWorth x = Check.with("batter a 10 0 0 0 0 10;batter b 10 0 0 0 0 10;batter c 10 0 0 0 0 10");
        check.fraction("P27 none", x.all(3, 0), x.all(3, 1), 0, 1);
        check.fraction("P26 none", x.credit(0, 3, 0), x.credit(0, 3, 1), 0, 1);
        x.event(1);
        x.event(8);
        x.event(5);
        x.event(0);
        check.fraction("P26 a", x.credit(0, 1, 0), x.credit(0, 1, 1), 1, 2);
        check.fraction("P26 b, who was up at the steal", x.credit(1, 1, 0), x.credit(1, 1, 1), 1, 2);
        check.fraction("P26 c", x.credit(2, 1, 0), x.credit(2, 1, 1), 0, 1);
        check.fraction("P27 all", x.all(1, 0), x.all(1, 1), 1, 1);
        x.event(0);
        // a again: the inning was over
        check.fraction("P26 a", x.credit(0, 1, 0), x.credit(0, 1, 1), 0, 1);
        x.event(0);
        x.event(0);
        x.event(0);
        check.fraction("P26 a", x.credit(0, 1, 0), x.credit(0, 1, 1), -1, 2);
        check.fraction("P27 all", x.all(1, 0), x.all(1, 1), 0, 1);
        x.event(0);
        x.event(0);
        x.event(0);
        check.fraction("P26 a", x.credit(0, 1, 0), x.credit(0, 1, 1), -1, 1);
        check.due("P41 it is -1, not refused", x.trouble(), 0);
        check.fraction("P27 all", x.all(1, 0), x.all(1, 1), -1, 2);
    }

    private static void addedRefused() {
        RunWorth x = Check.with(HALF);
        x.event(5);
        check.refused("P25 row 1", x, x.added(1, 6, 0), 1);
        check.refused("P25 row -1", x, x.added(-1, 1, 0), 1);
        check.refused("P26 batter 1", x, x.credit(1, 6, 0), 1);
        check.refused("P26 batter -1", x, x.credit(-1, 1, 0), 1);
        for (int what : new int[] {-1, 2}) {
            check.refused("P25 what " + what, x, x.added(0, 6, what), 1);
            check.refused("P26 what " + what, x, x.credit(0, 6, what), 1);
            check.refused("P27 what " + what, x, x.all(6, what), 1);
        }
        for (int k : new int[] {-1, 0, 6}) {
            check.refused("P25 k " + k, x, x.added(0, k, 0), 2);
            check.refused("P26 k " + k, x, x.credit(0, k, 1), 2);
            check.refused("P27 k " + k, x, x.all(k, 0), 2);
        }
    }

    /** By seed 1 the draws modulo 20 are 7, 9, 13, 18, 10, 12, 4, 18, 3, 9. */
    private static void play() {
        RunWorth x = Check.with(ALL_SORTS);
        check.due("P30 play(1,9)", x.play(1, 9, false), 5);
        stands("P30", x, 2, 0, 0, 5, 0, 9, 9);
        int[] events = {0, 1, 2, 4, 2, 2, 0, 4, 0};
        for (int i = 0; i < 9; i++) {
            check.due("P30 event " + i, x.log(8 - i, 1), events[i]);
        }
        check.due("P30 one act", x.about(8), 1);
        check.due("P30 a draw is that which x becomes", x.play(2007237709, 1, false), 0);
        x.undo();
        x.undo();
        stands("P38", x, 1, 0, 0, 0, 0, 0, 0);
        check.due("P30 play(1,10)", x.play(1, 10, false), 5);
        stands("P30", x, 2, 1, 0, 5, 0, 10, 10);
        check.due("P30 play(2147483646,1)", x.play(2147483646, 1, false), 0);
        // 2147483647 - 16807 modulo 20 is 0: out
        check.due("P30 the last seed", x.log(0, 1), 0);
        x = Check.with("tire 1;batter a 8 2 4 3 2 1");
        x.play(1, 3, false);
        // the first: 7 of 8, out; the second by 7 OUT: 9 is the first of the single's; the third by 6: 13 still a single
        check.due("P30 tired", x.log(1, 1), 2);
        check.due("P30 tired", x.log(0, 1), 2);
        check.due("P30 tired", x.log(2, 1), 0);
        x = Check.with("batter a 8 2 4 3 2 1;batter b 0 0 0 0 0 20");
        check.due("P30 each by his own", x.play(1, 3, false), 1);
        check.due("P30 each by his own", x.log(0, 1), 2);
        check.due("P30 each by his own", x.log(1, 1), 5);
    }

    private static void playWisely() {
        RunWorth x = Check.with(NEVER);
        x.event(1);
        check.due("P30 stolen, then a bunt, as one", x.play(1, 1, true), 0);
        stands("P30 wise", x, 1, 4, 1, 0, 0, 2, 3);
        check.due("P30", x.log(0, 1), 6);
        check.due("P30", x.log(1, 1), 7);
        check.due("P30 the bunt that brings him home", x.play(1, 1, true), 1);
        stands("P30 wise", x, 1, 0, 2, 1, 0, 3, 4);
        x = Check.with(NEVER + ";steal 7");
        x.event(1);
        check.due("P30 a draw of 7 isn't below 7: caught, then out", x.play(1, 1, true), 0);
        stands("P30 wise", x, 1, 0, 2, 0, 0, 2, 3);
        check.due("P30", x.log(0, 1), 0);
        check.due("P30", x.log(1, 1), 8);
        x = Check.with(NEVER + ";steal 8");
        x.event(1);
        x.play(1, 2, true);
        stands("P30 a draw of 7 is below 8: stolen", x, 1, 0, 2, 1, 0, 3, 4);
        x = Check.with(NEVER);
        x.event(1);
        x.play(1, 1, false);
        stands("P30 not wise: HIT", x, 1, 1, 1, 0, 0, 2, 2);
    }

    private static void playCaught() {
        RunWorth x = Check.with("steal 7;batter a 14 0 6 0 0 0;batter b 14 0 6 0 0 0");
        x.event(0);
        x.event(0);
        x.event(2);
        check.due("P16 STEAL", x.choice(1, 2, 2), 2);
        check.due("P30 caught at the third out", x.play(1, 1, true), 0);
        stands("P30 that was all of that one", x, 2, 0, 0, 0, 1, 3, 4);
        check.due("P30", x.log(0, 1), 8);
        check.due("P30", x.log(0, 0), 1);
        check.due("P38", x.undo(), 3);
        check.due("P30 of two he comes up again", x.play(1, 2, true), 0);
        // the second draw is 9: out
        stands("P30", x, 2, 0, 1, 0, 0, 4, 5);
        check.due("P30", x.log(0, 0), 1);
    }

    private static void innings(RunWorth x, int seed, int n, boolean wise, int runs, int batters, int most) {
        String by = "P28 innings(" + seed + "," + n + "," + wise;
        check.due(by + ",0)", x.innings(seed, n, wise, 0), runs);
        check.due(by + ",1)", x.innings(seed, n, wise, 1), batters);
        check.due(by + ",2)", x.innings(seed, n, wise, 2), most);
        check.due("P41", x.trouble(), 0);
    }

    private static void innings() {
        RunWorth x = Check.with(ALL_SORTS);
        innings(x, 1, 1, false, 5, 9, 5);
        x = Check.with(NEVER);
        innings(x, 1, 1, false, 0, 3, 0);
        innings(x, 5, 9, false, 0, 27, 0);
        innings(x, 5, 9, true, 0, 27, 0);
        innings(x, 2147483646, 9, true, 0, 27, 0);
        x = Check.with("batter a 20 0 0 0 0 0;batter b 20 0 0 0 0 0;batter c 20 0 0 0 0 0;batter d 0 0 0 0 0 20");
        // aaa bbb: out, out, out; homer, out, out, out; homer, out, out, out ..
        innings(x, 1, 1, false, 0, 3, 0);
        innings(x, 1, 2, false, 1, 7, 1);
        innings(x, 1, 4, false, 3, 15, 1);
        x.swap(0, 3);
        innings(x, 1, 1, false, 1, 4, 1);
    }

    private static void inningsOfHundred() {
        RunWorth x = Check.with("batter a 0 0 0 0 0 20");
        innings(x, 1, 1, false, 100, 100, 100);
        innings(x, 9, 9, true, 100, 100, 100);
        x = Check.with("batter a 0 20 0 0 0 0");
        innings(x, 1, 3, false, 97, 100, 97);
        // with a tired thrower: at FACED 30, 60, 90 there are singles, never outs
        x = Check.with("tire 1;batter a 20 0 0 0 0 0");
        check.due("P28 he tires from 0 on", x.innings(1, 9, false, 1), new Walk().batters());
    }

    /** Of an always-out batter whose OUT go over to SINGLE one by one, by seed 1: counted here by hand. */
    private static final class Walk {
        private long x = 1;

        int batters() {
            int outs = 0;
            int up = 0;
            while (outs < 27 && up < 100) {
                x = 16807 * x % 2147483647L;
                if (x % 20 < 20 - Math.min(20, up)) {
                    outs++;
                }
                up++;
            }
            return up;
        }
    }

    private static void inningsOnPaper() {
        RunWorth x = Check.with(ALL_SORTS + ";steal 20");
        x.event(4);
        x.event(0);
        x.event(5);
        innings(x, 1, 1, false, 5, 9, 5);
        stands("P28 on paper", x, 1, 0, 1, 2, 0, 3, 3);
        check.due("P28 it is no act", x.about(8), 3);
        // a out, b out, c a single, then a by a draw of 18: he'd never bring c home, so HIT: out
        x = Check.with("steal 7;batter a 20 0 0 0 0 0;batter b 20 0 0 0 0 0;batter c 0 0 20 0 0 0");
        innings(x, 1, 1, true, 0, 4, 0);
        x = Check.with("steal 7;batter a 14 0 6 0 0 0;batter b 14 0 6 0 0 0;batter c 10 0 10 0 0 0");
        // 7, 9: out; 13: c a single; by 18 a is CAUGHT, the third out: he was up
        innings(x, 1, 1, true, 0, 4, 0);
        // and he is up again: 10, 12, 4: out
        innings(x, 1, 2, true, 0, 7, 0);
        // 18: a a single; by 3 STOLEN, then b's bunt; c's bunt brings a home; 9: a out
        innings(x, 1, 3, true, 1, 11, 1);
    }

    private static void playRefused() {
        RunWorth x = Check.with(HALF);
        for (int seed : new int[] {0, -1, Integer.MIN_VALUE, Integer.MAX_VALUE}) {
            check.refused("P30 seed " + seed, x, x.play(seed, 1, false), 2);
            check.refused("P28 seed " + seed, x, x.innings(seed, 1, true, 0), 2);
        }
        for (int n : new int[] {0, -1, 21, Integer.MAX_VALUE}) {
            check.refused("P30 n " + n, x, x.play(1, n, true), 2);
        }
        for (int n : new int[] {0, -1, 10, Integer.MAX_VALUE}) {
            check.refused("P28 n " + n, x, x.innings(1, n, true, 0), 2);
        }
        check.refused("P28 what 3", x, x.innings(0, 0, true, 3), 1);
        check.refused("P28 what -1", x, x.innings(1, 1, true, -1), 1);
        stands("P41 what is refused changes nothing", x, 1, 0, 0, 0, 0, 0, 0, 0);
        check.due("P30 n 20", x.play(1, 20, false) >= 0 ? 1 : 0, 1);
        check.due("P30 n 20", x.about(6), 20);
    }

    private static void relieveAndBegin() {
        RunWorth x = Check.with(NEVER + ";batter b 0 0 0 0 0 20;tire 2");
        x.swap(0, 1);
        for (int i = 0; i < 5; i++) {
            x.event(0);
        }
        x.event(5);
        check.due("P31 relieve()", x.relieve(), 6);
        stands("P31", x, 2, 0, 2, 1, 0, 0, 6);
        check.due("P31 again", x.relieve(), 0);
        x.event(2);
        check.due("P32 begin()", x.begin(), 1);
        stands("P32 the order stays, its first is NEXT", x, 1, 0, 0, 0, 1, 0, 0);
        check.due("P32 the order stays", x.place(0), 1);
        check.due("P32 an act", x.about(8), 10);
        check.due("P32 again", x.begin(), 0);
        x.undo();
        x.undo();
        stands("P38 undone", x, 2, 1, 2, 1, 1, 1, 7);
        check.due("P38 the log, too", x.log(1, 1), 5);
        x.undo();
        x.undo();
        stands("P38 undone", x, 2, 0, 2, 1, 0, 0, 6);
        x.undo();
        stands("P38 undone", x, 2, 0, 2, 1, 0, 6, 6);
    }

    private static void shift() {
        RunWorth x = Check.with("batter a 10 2 3 4 1 0;batter b 20 0 0 0 0 0");
        check.due("P36 shift(0,0,5,10)", x.shift(0, 0, 5, 10), 10);
        check.due("P36 from", x.batter(0, 0), 0);
        check.due("P36 shift(0,2,5,1)", x.shift(0, 2, 5, 1), 11);
        check.due("P36 shift(1,0,1,20)", x.shift(1, 0, 1, 20), 20);
        check.due("P36 an act", x.about(8), 3);
        check.refused("P36 batter 2", x, x.shift(2, 0, 0, 0), 1);
        check.refused("P36 batter -1", x, x.shift(-1, 0, 1, 1), 1);
        check.refused("P36 from 6", x, x.shift(0, 6, 6, 0), 1);
        check.refused("P36 from -1", x, x.shift(0, -1, 0, 1), 1);
        check.refused("P36 to 6", x, x.shift(0, 1, 6, 21), 1);
        check.refused("P36 to -1", x, x.shift(0, 1, -1, 1), 1);
        check.refused("P36 n 0", x, x.shift(0, 1, 1, 0), 2);
        check.refused("P36 n 21", x, x.shift(0, 1, 2, 21), 2);
        check.refused("P36 one event", x, x.shift(0, 1, 1, 1), 5);
        check.refused("P36 not so many", x, x.shift(0, 1, 2, 3), 5);
        check.refused("P36 none left", x, x.shift(0, 0, 2, 1), 5);
        check.due("P36 refused: no act", x.about(8), 3);
        check.due("P38", x.undo(), 2);
        check.due("P38", x.batter(1, 0), 20);
        x.undo();
        x.undo();
        int[] due = {10, 2, 3, 4, 1, 0};
        for (int e = 0; e < 6; e++) {
            check.due("P38 undone", x.batter(0, e), due[e]);
        }
    }

    private static void become() {
        RunWorth x = Check.with(NEVER);
        int[] was = {1, 2, 0, 14, 30};
        int[] least = {1, 2, 0, 0, 1};
        int[] most = {2, 3, 1, 20, 99};
        for (int what = 0; what < 5; what++) {
            check.due("P37 become", x.become(what, most[what]), was[what]);
            check.due("P7", x.rule(what), most[what]);
            check.due("P37 become", x.become(what, least[what]), most[what]);
            check.due("P7", x.rule(what), least[what]);
            check.refused("P37 too little", x, x.become(what, least[what] - 1), 2);
            check.refused("P37 too much", x, x.become(what, most[what] + 1), 2);
            check.due("P7 refused", x.rule(what), least[what]);
        }
        check.due("P37 acts", x.about(8), 10);
        check.refused("P37 what 5", x, x.become(5, -1), 1);
        check.refused("P37 what -1", x, x.become(-1, 1), 1);
        x = Check.with(NEVER);
        x.become(0, 2);
        check.due("P37 single 2", x.after(1, 0, 2, 0), 5);
        x.become(2, 1);
        check.due("P37 fly 1", x.after(4, 0, 0, 2), 1);
        x.undo();
        check.due("P38 fly 0 again", x.after(4, 0, 0, 2), 0);
        check.due("P38 single 2 still", x.after(1, 0, 2, 0), 5);
        x.undo();
        check.due("P38 single 1 again", x.after(1, 0, 2, 0), 3);
        x.become(4, 1);
        check.due("P37 tire 1", x.chance(0, 0, 3), 17);
    }

    private static void undo() {
        RunWorth x = Check.with("batter a 0 0 0 0 0 20");
        check.refused("P38 none yet", x, x.undo(), 5);
        for (int i = 1; i <= 13; i++) {
            x.event(5);
            check.due("P6 acts", x.about(8), Math.min(i, 10));
        }
        check.refused("P38 what is refused is none", x, x.event(9), 1);
        for (int i = 9; i >= 0; i--) {
            check.due("P38 undo()", x.undo(), i);
            check.due("P38 score", x.about(4), 3 + i);
            check.due("P38 rows", x.about(7), 3 + i);
            check.due("P38 faced", x.about(6), 3 + i);
        }
        check.refused("P38 no more", x, x.undo(), 5);
        check.due("P38 score", x.about(4), 3);
        x.event(1);
        x.undo();
        check.due("P38 score", x.about(4), 3);
        x.event(1);
        x.event(2);
        check.due("P38 an undone one is gone", x.undo(), 1);
        check.due("P38", x.about(2), 1);
        check.refused("P3 by 4", x, x.text(0), 4);
        check.due("P38 the acts stay by a refused text", x.undo(), 0);
    }
}
