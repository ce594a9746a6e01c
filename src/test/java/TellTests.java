/** Promises 6 to 12: about, rule, batter, place, coming, chance, after. */
public final class TellTests {
    private static final Check check = new Check("what is told");
    private static final String THREE = "batter a 20 0 0 0 0 0;batter b 1 2 3 4 5 5;batter c 0 0 0 0 0 20";

    public static void main(String[] args) {
        withoutText();
        about();
        rule();
        batter();
        places();
        chance();
        outs();
        walks();
        hits();
        runnersAlone();
        afterRefused();
        check.end();
    }

    private static void withoutText() {
        RunWorth x = new RunWorth();
        check.refused("P6 about", x, x.about(0), 1);
        check.refused("P7 rule", x, x.rule(0), 1);
        check.refused("P8 batter", x, x.batter(0, 0), 1);
        check.refused("P9 place", x, x.place(0), 1);
        check.refused("P10 coming", x, x.coming(0), 1);
        check.refused("P11 chance", x, x.chance(0, 0, -1), 1);
        check.refused("P12 after", x, x.after(8, 3, 0, 0), 1);
    }

    private static void about() {
        RunWorth x = Check.with(THREE);
        x.event(0);
        x.event(0);
        x.event(0);
        x.event(5);
        x.event(1);
        x.event(0);
        int[] due = {3, 2, 1, 1, 1, 0, 6, 6, 6};
        for (int i = 0; i < 9; i++) {
            check.due("P6 about(" + i + ")", x.about(i), due[i]);
            check.due("P41", x.trouble(), 0);
        }
        check.refused("P6 about(9)", x, x.about(9), 1);
        check.refused("P6 about(-1)", x, x.about(-1), 1);
    }

    private static void rule() {
        RunWorth x = Check.with(THREE);
        int[] due = {1, 2, 0, 14, 30};
        for (int i = 0; i < 5; i++) {
            check.due("P7 rule(" + i + ")", x.rule(i), due[i]);
        }
        check.refused("P7 rule(5)", x, x.rule(5), 1);
        check.refused("P7 rule(-1)", x, x.rule(-1), 1);
    }

    private static void batter() {
        RunWorth x = Check.with(THREE + ";tire 1");
        x.swap(0, 2);
        x.event(1);
        x.event(5);
        x.event(1);
        x.event(7);
        int[] due = {1, 2, 3, 4, 5, 5, 1};
        for (int i = 0; i < 7; i++) {
            check.due("P8 batter(1," + i + ")", x.batter(1, i), due[i]);
        }
        check.due("P8 place of a", x.batter(0, 6), 2);
        check.due("P8 place of c", x.batter(2, 6), 0);
        // a, who was NEXT, walked, c hit a homer, b walked; then a was up at a steal
        int[] rows = {2, 1, 1};
        int[] runs = {0, 0, 2};
        for (int b = 0; b < 3; b++) {
            check.due("P8 batter(" + b + ",7)", x.batter(b, 7), rows[b]);
            check.due("P8 batter(" + b + ",8)", x.batter(b, 8), runs[b]);
        }
        check.refused("P8 batter(3,0)", x, x.batter(3, 0), 1);
        check.refused("P8 batter(-1,0)", x, x.batter(-1, 0), 1);
        check.refused("P8 batter(0,9)", x, x.batter(0, 9), 1);
        check.refused("P8 batter(0,-1)", x, x.batter(0, -1), 1);
    }

    private static void places() {
        RunWorth x = Check.with(THREE);
        x.swap(0, 2);
        int[] due = {2, 1, 0};
        for (int i = 0; i < 3; i++) {
            check.due("P9 place(" + i + ")", x.place(i), due[i]);
        }
        check.refused("P9 place(3)", x, x.place(3), 1);
        check.refused("P9 place(-1)", x, x.place(-1), 1);
        check.due("P10 coming(0)", x.coming(0), 0);
        check.due("P10 coming(1)", x.coming(1), 2);
        check.due("P10 coming(2)", x.coming(2), 1);
        check.due("P10 coming(3)", x.coming(3), 0);
        check.due("P10 coming(2147483647)", x.coming(2147483647), 2);
        check.refused("P10 coming(-1)", x, x.coming(-1), 1);
    }

    private static void chance() {
        RunWorth x = Check.with("tire 2;batter a 3 2 1 4 5 5;batter b 20 0 0 0 0 0");
        int[][] due = {{0, 3, 1}, {1, 3, 1}, {2, 2, 2}, {3, 2, 2}, {4, 1, 3}, {6, 0, 4}, {8, 0, 4}, {999, 0, 4}};
        for (int[] d : due) {
            check.due("P11 chance(0,0," + d[0] + ")", x.chance(0, 0, d[0]), d[1]);
            check.due("P11 chance(0,2," + d[0] + ")", x.chance(0, 2, d[0]), d[2]);
            check.due("P11 chance(0,1," + d[0] + ")", x.chance(0, 1, d[0]), 2);
            check.due("P11 chance(0,3," + d[0] + ")", x.chance(0, 3, d[0]), 4);
            check.due("P11 chance(0,4," + d[0] + ")", x.chance(0, 4, d[0]), 5);
            check.due("P11 chance(0,5," + d[0] + ")", x.chance(0, 5, d[0]), 5);
        }
        check.due("P11 chance(1,0,39)", x.chance(1, 0, 39), 1);
        check.due("P11 chance(1,2,41)", x.chance(1, 2, 41), 20);
        check.refused("P11 chance(2,0,1000)", x, x.chance(2, 0, 1000), 1);
        check.refused("P11 chance(-1,0,0)", x, x.chance(-1, 0, 0), 1);
        check.refused("P11 chance(0,6,0)", x, x.chance(0, 6, 0), 1);
        check.refused("P11 chance(0,-1,1000)", x, x.chance(0, -1, 1000), 1);
        check.refused("P11 chance(0,0,1000)", x, x.chance(0, 0, 1000), 2);
        check.refused("P11 chance(0,0,-1)", x, x.chance(0, 0, -1), 2);
    }

    private static void after(RunWorth x, int bases, int outs, int e, int basesDue, int outsDue, int runsDue) {
        String by = "P12 after(" + bases + "," + outs + "," + e;
        check.due(by + ",0)", x.after(bases, outs, e, 0), basesDue);
        check.due(by + ",1)", x.after(bases, outs, e, 1), outsDue);
        check.due(by + ",2)", x.after(bases, outs, e, 2), runsDue);
        check.due("P41", x.trouble(), 0);
    }

    private static void outs() {
        RunWorth x = Check.with(THREE);
        for (int bases = 0; bases < 8; bases++) {
            after(x, bases, 0, 0, bases, 1, 0);
            after(x, bases, 1, 0, bases, 2, 0);
            after(x, bases, 2, 0, 0, 3, 0);
        }
        x.become(2, 1);
        for (int bases = 0; bases < 8; bases++) {
            after(x, bases, 0, 0, bases & 3, 1, bases >> 2);
            after(x, bases, 1, 0, bases & 3, 2, bases >> 2);
            after(x, bases, 2, 0, 0, 3, 0);
        }
    }

    private static void walks() {
        RunWorth x = Check.with(THREE);
        int[] behind = {1, 3, 3, 7, 5, 7, 7, 7};
        for (int bases = 0; bases < 8; bases++) {
            after(x, bases, 2, 1, behind[bases], 2, bases == 7 ? 1 : 0);
        }
    }

    private static void hits() {
        RunWorth x = Check.with(THREE);
        int[] by1 = {1, 3, 5, 7, 1, 3, 5, 7};
        int[] home1 = {0, 0, 0, 0, 1, 1, 1, 1};
        int[] by2 = {1, 5, 1, 5, 1, 5, 1, 5};
        int[] home2 = {0, 0, 1, 1, 1, 1, 2, 2};
        int[] all = {0, 1, 1, 2, 1, 2, 2, 3};
        for (int bases = 0; bases < 8; bases++) {
            after(x, bases, 0, 2, by1[bases], 0, home1[bases]);
            after(x, bases, 1, 3, (bases & 1) == 0 ? 2 : 6, 1, home2[bases]);
            after(x, bases, 2, 4, 4, 2, all[bases]);
            after(x, bases, 2, 5, 0, 2, all[bases] + 1);
        }
        x.become(0, 2);
        x.become(1, 3);
        for (int bases = 0; bases < 8; bases++) {
            after(x, bases, 0, 2, by2[bases], 0, home2[bases]);
            after(x, bases, 1, 3, 2, 1, all[bases]);
        }
    }

    private static void runnersAlone() {
        RunWorth x = Check.with(THREE + ";single 2;double 3;fly 1");
        int[] behind = {0, 2, 4, 6, 0, 2, 4, 6};
        for (int bases = 1; bases < 8; bases++) {
            after(x, bases, 0, 6, behind[bases], 1, bases >> 2);
            after(x, bases, 1, 6, behind[bases], 2, bases >> 2);
            check.refused("P12 a bunt with two outs", x, x.after(bases, 2, 6, 0), 5);
        }
        for (int outs = 0; outs < 3; outs++) {
            check.refused("P12 a bunt without a runner", x, x.after(0, outs, 6, 0), 5);
            after(x, 1, outs, 7, 2, outs, 0);
            after(x, 5, outs, 7, 6, outs, 0);
            after(x, 1, outs, 8, 0, outs + 1, 0);
            after(x, 5, outs, 8, outs == 2 ? 0 : 4, outs + 1, 0);
            for (int bases : new int[] {0, 2, 3, 4, 6, 7}) {
                check.refused("P12 stolen from " + bases, x, x.after(bases, outs, 7, 2), 5);
                check.refused("P12 caught from " + bases, x, x.after(bases, outs, 8, 1), 5);
            }
        }
    }

    private static void afterRefused() {
        RunWorth x = Check.with(THREE);
        check.refused("P12 event 9", x, x.after(8, 0, 9, 0), 1);
        check.refused("P12 event -1", x, x.after(0, 3, -1, 0), 1);
        check.refused("P12 what 3", x, x.after(8, 0, 6, 3), 1);
        check.refused("P12 what -1", x, x.after(0, 0, 6, -1), 1);
        check.refused("P12 bases 8", x, x.after(8, 0, 6, 0), 2);
        check.refused("P12 bases -1", x, x.after(-1, 0, 6, 0), 2);
        check.refused("P12 outs 3", x, x.after(0, 3, 6, 0), 2);
        check.refused("P12 outs -1", x, x.after(0, -1, 6, 0), 2);
    }
}
