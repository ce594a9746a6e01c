/** Promises 20 to 23 and 33 to 35: worth, best, bestAt, exchanged; swap, lay, better. */
public final class OrderTests {
    private static final Check check = new Check("the order");
    private static final String NEVER = " 20 0 0 0 0 0";
    private static final String WALKS = " 0 20 0 0 0 0";
    private static final String ALWAYS = " 0 0 0 0 0 20";
    private static final String THREE = "batter a" + NEVER + ";batter b" + ALWAYS + ";batter c" + WALKS;

    public static void main(String[] args) {
        worth();
        best();
        bestOfFew();
        bestOfMany();
        exchanged();
        swap();
        lay();
        better();
        betterTies();
        refused(new RunWorth(), 1, 1, 1);
        refused(Check.with(THREE), 2, 1, 5);
        refusedPlaces();
        check.end();
    }

    private static void worth(RunWorth x, int k, long above, long below) {
        check.fraction("P20 worth(" + k + ")", x.worth(k, 0), x.worth(k, 1), above, below);
        check.due("P41", x.trouble(), 0);
    }

    private static void order(String call, RunWorth x, int... due) {
        for (int i = 0; i < due.length; i++) {
            check.due(call + " place(" + i + ")", x.place(i), due[i]);
        }
    }

    private static void best(RunWorth x, int k, long above, long below, int... due) {
        check.fraction("P21 best(" + k + ")", x.best(k, 0), x.best(k, 1), above, below);
        for (int i = 0; i < due.length; i++) {
            check.due("P22 bestAt(" + k + "," + i + ")", x.bestAt(k, i), due[i]);
        }
        check.due("P41", x.trouble(), 0);
    }

    private static void worth() {
        RunWorth x = Check.with(THREE);
        worth(x, 1, 0, 1);
        worth(x, 2, 1, 1);
        worth(x, 3, 1, 1);
        worth(x, 4, 1, 1);
        worth(x, 5, 3, 1);
        // it is that of the order from its first on, whoever is NEXT, whatever FACED and the STATE are
        x.event(4);
        x.event(0);
        worth(x, 2, 1, 1);
        worth(x, 5, 3, 1);
        x.swap(0, 1);
        worth(x, 1, 1, 1);
        x = Check.with("tire 1;batter a" + NEVER);
        x.event(0);
        x.event(0);
        worth(x, 3, 0, 1);
        x = Check.with("tire 1;single 2;batter a 18 0 0 0 2 0");
        // FACED 0, 1: a triple, then 1 of 20 a single
        worth(x, 2, 3, 200);
    }

    private static void best() {
        RunWorth x = Check.with(THREE);
        check.due("P22 ahead of any other call", x.bestAt(1, 0), 1);
        check.due("P22 by another k", x.bestAt(2, 0), 2);
        best(x, 1, 1, 1, 1, 0, 2);
        best(x, 2, 2, 1, 2, 1, 0);
        best(x, 3, 2, 1, 0, 2, 1);
        x.swap(0, 2);
        best(x, 1, 1, 1, 1, 0, 2);
        best(x, 3, 2, 1, 0, 2, 1);
        x.event(5);
        best(x, 2, 2, 1, 2, 1, 0);
        check.due("P21 the order stays", x.place(0), 2);
    }

    private static void bestOfFew() {
        RunWorth x = Check.with("batter a 10 0 0 0 0 10");
        best(x, 1, 1, 2, 0);
        best(x, 2, 1, 1, 0);
        best(x, 3, 3, 2, 0);
        x = Check.with("batter a" + NEVER + ";batter b" + ALWAYS);
        best(x, 1, 1, 1, 1, 0);
        best(x, 2, 1, 1, 0, 1);
        best(x, 3, 2, 1, 1, 0);
        // c is out and b is his like: the round brings the first again, not the third
        x = Check.with("batter a" + WALKS + ";batter b" + ALWAYS);
        best(x, 3, 3, 1, 1, 0);
        x = Check.with("tire 1;single 2;batter a 18 0 0 0 2 0");
        best(x, 2, 3, 200, 0);
        x.event(0);
        best(x, 2, 3, 200, 0);
    }

    private static void bestOfMany() {
        StringBuilder nine = new StringBuilder();
        for (char c = 'a'; c <= 'i'; c++) {
            nine.append(c == 'a' ? "" : ";").append("batter ").append(c).append(c == 'h' ? WALKS : c == 'e' ? ALWAYS : NEVER);
        }
        RunWorth x = Check.with(nine.toString());
        best(x, 1, 1, 1, 4, 0, 1, 2, 3, 5, 6, 7, 8);
        best(x, 2, 2, 1, 7, 4, 0, 1, 2, 3, 5, 6, 8);
        best(x, 3, 2, 1, 0, 7, 4, 1, 2, 3, 5, 6, 8);
        check.due("P34 lay(3)", x.lay(3), 7);
        order("P34", x, 0, 7, 4, 1, 2, 3, 5, 6, 8);
    }

    private static void exchanged() {
        RunWorth x = Check.with("batter a" + NEVER + ";batter b 19 0 0 0 0 1");
        check.due("P23 by one twentieth", x.exchanged(0, 1, 1), 1);
        x.swap(0, 1);
        check.due("P23 by one twentieth", x.exchanged(0, 1, 1), -2);
        x = Check.with(THREE);
        check.due("P23 exchanged(0,1,1)", x.exchanged(0, 1, 1), 1);
        check.due("P23 exchanged(1,0,1)", x.exchanged(1, 0, 1), 1);
        check.due("P23 exchanged(0,2,1)", x.exchanged(0, 2, 1), 0);
        check.due("P23 exchanged(1,2,1)", x.exchanged(1, 2, 1), 0);
        check.due("P23 exchanged(1,2,2)", x.exchanged(1, 2, 2), -2);
        check.due("P23 exchanged(0,2,2)", x.exchanged(0, 2, 2), 1);
        check.due("P23 exchanged(2,2,5)", x.exchanged(2, 2, 5), 0);
        check.due("P41", x.trouble(), 0);
        order("P23 the order stays", x, 0, 1, 2);
        check.due("P23 it is no act", x.about(8), 0);
    }

    private static void swap() {
        RunWorth x = Check.with(THREE);
        check.due("P33 swap(0,2)", x.swap(0, 2), 2);
        order("P33", x, 2, 1, 0);
        check.due("P33 NEXT stays", x.about(5), 0);
        check.due("P33 wherever", x.coming(1), 2);
        check.due("P33 swap(2,1)", x.swap(2, 1), 1);
        order("P33", x, 2, 0, 1);
        check.due("P33 an act", x.about(8), 2);
        check.refused("P33 one place", x, x.swap(1, 1), 5);
        check.refused("P33 none such", x, x.swap(3, 3), 1);
        check.refused("P33 none such", x, x.swap(-1, 1), 1);
        check.refused("P33 none such", x, x.swap(1, 3), 1);
        check.refused("P33 none such", x, x.swap(1, -1), 1);
        check.due("P33 refused", x.about(8), 2);
        x.event(0);
        check.due("P33 behind the last comes the first", x.about(5), 1);
        check.due("P38", x.undo(), 2);
        check.due("P38", x.undo(), 1);
        order("P38 undone", x, 2, 1, 0);
        check.due("P38", x.undo(), 0);
        order("P38 undone", x, 0, 1, 2);
    }

    private static void lay() {
        RunWorth x = Check.with(THREE);
        check.due("P34 lay(1)", x.lay(1), 2);
        order("P34", x, 1, 0, 2);
        check.due("P34 lay(2)", x.lay(2), 3);
        order("P34", x, 2, 1, 0);
        check.due("P34 lay(2) again", x.lay(2), 0);
        check.due("P34 NEXT stays", x.about(5), 0);
        check.due("P34 acts, also where nothing was changed", x.about(8), 3);
        x.undo();
        order("P38", x, 2, 1, 0);
        x.undo();
        order("P38", x, 1, 0, 2);
    }

    private static void better() {
        RunWorth x = Check.with(THREE);
        check.due("P35 better(2)", x.better(2), 1);
        order("P35", x, 2, 1, 0);
        check.due("P35 better(2) again", x.better(2), 0);
        check.due("P35 acts", x.about(8), 2);
        check.due("P35 NEXT stays", x.about(5), 0);
        x.undo();
        x.undo();
        order("P38", x, 0, 1, 2);
        // by 5 a, b, c bring 3; b, a, c 3; c, b, a 4; a, c, b 2
        check.due("P35 better(5)", x.better(5), 1);
        order("P35", x, 2, 1, 0);
        x = Check.with("batter a" + NEVER + ";batter b" + NEVER + ";batter c 10 0 0 0 0 10;batter d" + ALWAYS);
        check.due("P35 first 0 with 3, then 1 with 2", x.better(2), 2);
        order("P35", x, 3, 2, 1, 0);
        check.due("P35 one act", x.undo(), 0);
        order("P38", x, 0, 1, 2, 3);
        check.due("P35 one batter", Check.with("batter a" + ALWAYS).better(5), 0);
    }

    private static void betterTies() {
        // b and c are alike: of like exchanges the first, 0 with 1
        RunWorth x = Check.with("batter a" + NEVER + ";batter b" + ALWAYS + ";batter c" + ALWAYS);
        check.due("P35 better(1)", x.better(1), 1);
        order("P35", x, 1, 0, 2);
        x.undo();
        // by 2 it is 1 already by b; best is b, c: 0 with 2 gives c, b
        check.due("P35 better(2)", x.better(2), 1);
        order("P35", x, 2, 1, 0);
        // the one that brings the most goes ahead of the first that brings more
        x = Check.with("batter a" + NEVER + ";batter b 10 0 0 0 0 10;batter c" + ALWAYS);
        check.due("P35 better(1)", x.better(1), 1);
        order("P35", x, 2, 1, 0);
    }

    private static void refused(RunWorth x, int trouble, int low, int high) {
        for (int k : new int[] {low - 1, high + 1, Integer.MIN_VALUE, Integer.MAX_VALUE}) {
            check.refused("P20 worth", x, x.worth(k, 0), trouble);
            check.refused("P23 exchanged", x, x.exchanged(0, 0, k), trouble);
            check.refused("P35 better", x, x.better(k), trouble);
        }
        for (int k : new int[] {0, 4, 5, -1}) {
            check.refused("P21 best", x, x.best(k, 0), trouble);
            check.refused("P22 bestAt", x, x.bestAt(k, 0), trouble);
            check.refused("P34 lay", x, x.lay(k), trouble);
        }
        if (trouble == 1) {
            check.refused("P33 swap", x, x.swap(0, 1), 1);
        } else {
            check.due("P41 what is refused is no act", x.about(8), 0);
        }
    }

    private static void refusedPlaces() {
        RunWorth x = Check.with(THREE);
        check.refused("P20 what 2", x, x.worth(6, 2), 1);
        check.refused("P20 what -1", x, x.worth(1, -1), 1);
        check.refused("P21 what 2", x, x.best(4, 2), 1);
        check.refused("P21 what -1", x, x.best(1, -1), 1);
        for (int i : new int[] {-1, 3, Integer.MAX_VALUE}) {
            check.refused("P22 bestAt(4," + i + ")", x, x.bestAt(4, i), 1);
            check.refused("P23 exchanged(" + i + ",0,6)", x, x.exchanged(i, 0, 6), 1);
            check.refused("P23 exchanged(0," + i + ",6)", x, x.exchanged(0, i, 6), 1);
        }
    }
}
