/** Boundaries of Terms III and of promises 20 to 23, 33 to 35: each method's remark tells the sentence. */
public final class EdgeOrderTests {
    private static final Check check = new Check("edges of the order");
    private static final Edges few = new Edges(check, Edges::few);
    private static final Edges rich = new Edges(check, Edges::rich);
    private static final Edges none = new Edges(check, Edges::empty);
    private static final Edges[] BOTH = {few, rich};
    private static final int[] FAR = {Integer.MIN_VALUE, Integer.MAX_VALUE};
    private static final String NEVER = " 20 0 0 0 0 0";
    private static final String WALKS = " 0 20 0 0 0 0";
    private static final String ALWAYS = " 0 0 0 0 0 20";

    public static void main(String[] args) {
        worthRefused();
        worthByK();
        worthFromTheFirst();
        worthAtFaced0();
        bestRefused();
        bestAtRefused();
        bestOfLikeOnes();
        bestOfFewerThanK();
        bestOfNine();
        bestIsTheGreatest();
        exchangedRefused();
        exchangedMoreAsMuchLess();
        swapRefused();
        swapNextStays();
        layRefused();
        layHowMany();
        betterRefused();
        betterAsLongAs();
        betterOfLikeOnes();
        betterHowOften();
        check.end();
    }

    private static RunWorth with(String... chances) {
        StringBuilder s = new StringBuilder("tire 99");
        for (int b = 0; b < chances.length; b++) {
            s.append(";batter ").append((char) ('a' + b)).append(chances[b]);
        }
        return Check.with(s.toString());
    }

    private static void order(String sentence, RunWorth x, int... due) {
        for (int i = 0; i < due.length; i++) {
            check.due(sentence + ", place(" + i + ")", x.place(i), due[i]);
        }
    }

    private static void best(String sentence, RunWorth x, int k, long above, long below, int... due) {
        check.due(sentence + ", best above", x.best(k, 0), above);
        check.due(sentence + ", best below", x.best(k, 1), below);
        for (int i = 0; i < due.length; i++) {
            check.due(sentence + ", bestAt(" + k + ", " + i + ")", x.bestAt(k, i), due[i]);
        }
        check.due("trouble()", x.trouble(), 0);
        check.due("where()", x.where(), -1);
    }

    /** "worth(k, what): above, below. NONE: 1 (no TEXT, what); 2." */
    private static void worthRefused() {
        for (Edges edges : BOTH) {
            for (int k : new int[] {-1, 0, 6, FAR[0], FAR[1]}) {
                edges.refused("worth(" + k + ", 0)", x -> x.worth(k, 0), 2);
                edges.refused("worth(" + k + ", 1)", x -> x.worth(k, 1), 2);
                edges.refused("worth(" + k + ", 2): what is told first", x -> x.worth(k, 2), 1);
                none.refused("worth(" + k + ", 0) without a TEXT", x -> x.worth(k, 0), 1);
            }
            for (int what : new int[] {-1, 2, FAR[0], FAR[1]}) {
                edges.refused("worth(1, " + what + ")", x -> x.worth(1, what), 1);
                edges.refused("worth(5, " + what + ")", x -> x.worth(5, what), 1);
            }
        }
    }

    /** "WORTH of an ORDER by k": 1 and 5 are taken. */
    private static void worthByK() {
        RunWorth x = with(ALWAYS);
        for (int k = 1; k <= 5; k++) {
            check.due("worth(" + k + ", 0)", x.worth(k, 0), k);
            check.due("worth(" + k + ", 1)", x.worth(k, 1), 1);
            check.due("trouble()", x.trouble(), 0);
        }
        few.told("worth(1, 0)", y -> y.worth(1, 0), 0);
        few.told("worth(1, 1)", y -> y.worth(1, 1), 1);
    }

    /** "PLAIN of a STATE without runners and OUTS, its first BATTER being NEXT, FACED 0." */
    private static void worthFromTheFirst() {
        RunWorth x = Check.with("tire 2;batter a 20 0 0 0 0 0;batter b 0 0 0 20 0 0;batter c 20 0 0 0 0 0");
        // a out, b doubles, c at FACED 2 singles in one of 20: b to third
        check.due("by 3", x.worth(3, 0), 0);
        x.become(0, 2);
        for (int i = 0; i < 7; i++) {
            check.due("by 3, above", x.worth(3, 0), 1);
            check.due("by 3, below", x.worth(3, 1), 20);
            x.event(i == 2 ? 7 : i == 4 ? 3 : 1);
        }
        x.swap(0, 2);
        check.due("c, b, a", x.worth(3, 1), 20);
        x.swap(0, 1);
        // b doubles, c is out at FACED 1, a singles in one of 20
        check.due("b, c, a", x.worth(3, 1), 20);
        x.swap(1, 2);
        x.shift(0, 0, 5, 20);
        check.due("b, a, c", x.worth(3, 0), 2);
        check.due("b, a, c", x.worth(3, 1), 1);
    }

    /** "FACED 0" at first, then 1: of WORTH, BEST, exchanges, by a thrower who tires by each BATTER. */
    private static void worthAtFaced0() {
        RunWorth x = Check.with("tire 1;batter a 18 0 0 0 2 0;batter b 18 0 0 0 2 0");
        for (int i = 0; i < 3; i++) {
            // a TRIPLE of 2, then another one or a SINGLE of 1: 2 times 3 of 400
            check.due("worth(2, 0)", x.worth(2, 0), 3);
            check.due("worth(2, 1)", x.worth(2, 1), 200);
            best("at FACED 0, 1", x, 2, 3, 200, 0, 1);
            check.due("as much", x.exchanged(0, 1, 2), 0);
            check.due("as much", x.exchanged(1, 0, 5), 0);
            check.due("as much", x.better(2), 0);
            check.due("as much", x.lay(3), 0);
            x.event(1);
        }
        // b's TRIPLES are one more: ahead 3 times (1 + 2), behind 2 times (1 + 3)
        x.shift(1, 0, 4, 1);
        check.due("b ahead", x.exchanged(0, 1, 2), 1);
        best("b ahead", x, 2, 9, 400, 1, 0);
        // a TRIPLE of 2, then 4 SINGLES, 2 TRIPLES; or a SINGLE of 3, then 2 TRIPLES: 12 and 6 of 400
        best("SINGLES at FACED 0, 1", Check.with("tire 1;batter a 15 0 3 0 2 0"), 2, 9, 200, 0);
        check.due("its WORTH", Check.with("tire 1;batter a 15 0 3 0 2 0").worth(2, 0), 9);
        x = Check.with("tire 2;batter a 18 0 0 0 2 0;batter b 18 0 0 0 2 0;batter c 20 0 0 0 0 0");
        best("two TRIPLES", x, 2, 1, 100, 0, 1, 2);
        // the third one is at FACED 2: c's one SINGLE of 20 brings him home who is on third, 19 of 100
        check.due("a, b, c by 3, above", x.worth(3, 0), 39);
        check.due("a, b, c by 3, below", x.worth(3, 1), 2000);
        check.due("c, a, b by 3 is less", x.exchanged(0, 2, 3), -2);
    }

    /** "best(k, what): NONE: 1 (no TEXT, what); 2 (k 1 .. 3)." */
    private static void bestRefused() {
        for (Edges edges : BOTH) {
            for (int k : new int[] {-1, 0, 4, 5, 6, FAR[0], FAR[1]}) {
                edges.refused("best(" + k + ", 0)", x -> x.best(k, 0), 2);
                edges.refused("best(" + k + ", 1)", x -> x.best(k, 1), 2);
                edges.refused("best(" + k + ", -1): what is told first", x -> x.best(k, -1), 1);
                none.refused("best(" + k + ", 0) without a TEXT", x -> x.best(k, 0), 1);
            }
            for (int what : new int[] {-1, 2, FAR[0], FAR[1]}) {
                edges.refused("best(1, " + what + ")", x -> x.best(1, what), 1);
                edges.refused("best(3, " + what + ")", x -> x.best(3, what), 1);
            }
        }
        // bo's homer and ann's are alike: one of 20
        few.told("best(1, 0)", x -> x.best(1, 0), 1);
        few.told("best(1, 1)", x -> x.best(1, 1), 20);
    }

    /** "bestAt(k, i): BEST: the BATTER at a place. NONE: 1; 2." */
    private static void bestAtRefused() {
        for (Edges edges : BOTH) {
            for (int k : new int[] {-1, 0, 4, 5, 6, FAR[0], FAR[1]}) {
                edges.refused("bestAt(" + k + ", 0)", x -> x.bestAt(k, 0), 2);
                edges.refused("bestAt(" + k + ", 2)", x -> x.bestAt(k, 2), 2);
                edges.refused("bestAt(" + k + ", 3): the place is told first", x -> x.bestAt(k, 3), 1);
                none.refused("bestAt(" + k + ", 0) without a TEXT", x -> x.bestAt(k, 0), 1);
            }
            for (int i : new int[] {-1, 3, 8, 9, FAR[0], FAR[1]}) {
                edges.refused("bestAt(1, " + i + ")", x -> x.bestAt(1, i), 1);
                edges.refused("bestAt(3, " + i + ")", x -> x.bestAt(3, i), 1);
            }
        }
        few.told("bestAt(1, 0)", x -> x.bestAt(1, 0), 0);
        few.told("bestAt(1, 2)", x -> x.bestAt(1, 2), 2);
        RunWorth nine = with(NEVER, NEVER, NEVER, NEVER, NEVER, NEVER, NEVER, NEVER, ALWAYS);
        check.due("bestAt(1, 0)", nine.bestAt(1, 0), 8);
        check.due("bestAt(1, 8)", nine.bestAt(1, 8), 7);
        check.refused("bestAt(1, 9)", nine, nine.bestAt(1, 9), 1);
    }

    /** "of like ones the first (place by place the least number)". */
    private static void bestOfLikeOnes() {
        for (int k = 1; k <= 3; k++) {
            best("all alike", with(NEVER, NEVER, NEVER, NEVER), k, 0, 1, 0, 1, 2, 3);
            best("all alike", with(ALWAYS, ALWAYS, ALWAYS), k, k, 1, 0, 1, 2);
        }
        RunWorth x = with(NEVER, ALWAYS, ALWAYS);
        x.swap(0, 2);
        best("two are alike", x, 1, 1, 1, 1, 0, 2);
        best("two are alike", x, 2, 2, 1, 1, 2, 0);
        // a, who is out, ahead of them costs nothing by 3
        best("two are alike", x, 3, 2, 1, 0, 1, 2);
        x.shift(2, 5, 0, 1);
        best("one of them is one twentieth less", x, 2, 39, 20, 1, 2, 0);
        x.shift(1, 5, 0, 2);
        best("the other one is two twentieths less", x, 2, 37, 20, 1, 2, 0);
        best("by 1", x, 1, 19, 20, 2, 0, 1);
    }

    /** BEST by k of fewer BATTERS than k: they come round. */
    private static void bestOfFewerThanK() {
        best("one, by 1", with(WALKS), 1, 0, 1, 0);
        best("one, by 2", with(WALKS), 2, 0, 1, 0);
        best("one, by 3", with(ALWAYS), 3, 3, 1, 0);
        best("two, by 3", with(NEVER, ALWAYS), 3, 2, 1, 1, 0);
        best("two, by 2", with(NEVER, ALWAYS), 2, 1, 1, 0, 1);
        // b hits, a walks, b hits two home; or a walks, b hits two, a walks
        best("two, by 3", with(WALKS, ALWAYS), 3, 3, 1, 1, 0);
        best("two, by 2", with(WALKS, ALWAYS), 2, 2, 1, 0, 1);
        best("three, by 3", with(NEVER, WALKS, ALWAYS), 3, 2, 1, 0, 1, 2);
    }

    /** BEST of nine: the last ones by numbers, too. */
    private static void bestOfNine() {
        RunWorth x = with(NEVER, NEVER, NEVER, NEVER, NEVER, NEVER, ALWAYS, WALKS, WALKS);
        best("by 1", x, 1, 1, 1, 6, 0, 1, 2, 3, 4, 5, 7, 8);
        best("by 2", x, 2, 2, 1, 7, 6, 0, 1, 2, 3, 4, 5, 8);
        best("by 3", x, 3, 3, 1, 7, 8, 6, 0, 1, 2, 3, 4, 5);
        check.due("lay(3)", x.lay(3), 9);
        best("by 3, whatever THE ORDER is", x, 3, 3, 1, 7, 8, 6, 0, 1, 2, 3, 4, 5);
    }

    /** "the ORDER of the greatest WORTH": of all orders of four there is none of more, none ahead of as much. */
    private static void bestIsTheGreatest() {
        String[] sorts = {" 9 3 4 2 1 1", " 12 5 1 0 0 2", " 10 2 6 2 0 0", " 13 1 1 1 1 3"};
        for (int k = 1; k <= 3; k++) {
            RunWorth x = with(sorts);
            double greatest = (double) x.best(k, 0) / x.best(k, 1);
            int code = 0;
            for (int i = 0; i < 4; i++) {
                code = code * 4 + x.bestAt(k, i);
            }
            for (int other = 0; other < 256; other++) {
                RunWorth y = laid(sorts, other);
                if (y != null) {
                    double worth = (double) y.worth(k, 0) / y.worth(k, 1);
                    check.due("none is more by " + k, worth > greatest ? 1 : 0, 0);
                    check.due("none ahead is as much by " + k, worth == greatest && other < code ? 1 : 0, 0);
                    check.due("it is its WORTH by " + k, other == code && worth != greatest ? 1 : 0, 0);
                }
            }
        }
    }

    /** By swaps, place by place; null: one BATTER is told twice. */
    private static RunWorth laid(String[] sorts, int code) {
        RunWorth x = with(sorts);
        for (int i = 0; i < 4; i++) {
            int b = code >> 2 * (3 - i) & 3;
            int at = x.batter(b, 6);
            if (at < i) {
                return null;
            }
            if (at > i) {
                x.swap(i, at);
            }
        }
        return x;
    }

    /** "exchanged(i, j, k): NONE: 1; 2." */
    private static void exchangedRefused() {
        for (Edges edges : BOTH) {
            for (int i : new int[] {-1, 3, 8, 9, FAR[0], FAR[1]}) {
                edges.refused("exchanged(" + i + ", 0, 1)", x -> x.exchanged(i, 0, 1), 1);
                edges.refused("exchanged(0, " + i + ", 1)", x -> x.exchanged(0, i, 1), 1);
                edges.refused("exchanged(" + i + ", " + i + ", 5)", x -> x.exchanged(i, i, 5), 1);
                edges.refused("exchanged(" + i + ", 0, 6): the place is told first", x -> x.exchanged(i, 0, 6), 1);
                edges.refused("exchanged(0, " + i + ", 0): the place is told first", x -> x.exchanged(0, i, 0), 1);
            }
            for (int k : new int[] {-1, 0, 6, FAR[0], FAR[1]}) {
                edges.refused("exchanged(0, 1, " + k + ")", x -> x.exchanged(0, 1, k), 2);
                edges.refused("exchanged(2, 2, " + k + ")", x -> x.exchanged(2, 2, k), 2);
            }
        }
        none.refused("exchanged(0, 0, 1) without a TEXT", x -> x.exchanged(0, 0, 1), 1);
    }

    /** "is more (1), as much (0), less (-2)"; one place with itself is as much. */
    private static void exchangedMoreAsMuchLess() {
        // cy never, bo and ann one homer of 20 alike
        few.told("exchanged(0, 1, 1)", x -> x.exchanged(0, 1, 1), 1);
        few.told("exchanged(1, 0, 1)", x -> x.exchanged(1, 0, 1), 1);
        few.told("exchanged(1, 2, 1)", x -> x.exchanged(1, 2, 1), 0);
        few.told("exchanged(0, 0, 1)", x -> x.exchanged(0, 0, 1), 0);
        few.told("exchanged(2, 2, 5)", x -> x.exchanged(2, 2, 5), 0);
        RunWorth x = with(" 10 0 0 0 0 10", " 10 0 0 0 0 10", " 20 0 0 0 0 0");
        check.due("as much", x.exchanged(0, 1, 1), 0);
        check.due("less", x.exchanged(0, 2, 1), -2);
        x.shift(1, 0, 5, 1);
        check.due("one twentieth more", x.exchanged(0, 1, 1), 1);
        check.due("as much by 2", x.exchanged(0, 1, 2), 0);
        x.shift(1, 5, 0, 2);
        check.due("one twentieth less", x.exchanged(0, 1, 1), -2);
        check.due("behind k it is as much", x.exchanged(1, 2, 1), 0);
        check.due("trouble()", x.trouble(), 0);
    }

    /** "swap(i, j): NONE: 1; 5 (one place)." */
    private static void swapRefused() {
        for (Edges edges : BOTH) {
            for (int i : new int[] {-1, 3, 8, 9, FAR[0], FAR[1]}) {
                edges.refused("swap(" + i + ", 0)", x -> x.swap(i, 0), 1);
                edges.refused("swap(0, " + i + ")", x -> x.swap(0, i), 1);
                edges.refused("swap(" + i + ", " + i + "): 1 is told first", x -> x.swap(i, i), 1);
            }
            for (int i = 0; i < 3; i++) {
                int p = i;
                edges.refused("swap(" + i + ", " + i + ")", x -> x.swap(p, p), 5);
            }
        }
        few.act("swap(0, 2)", x -> x.swap(0, 2), 0, 5);
        few.act("swap(2, 0)", x -> x.swap(2, 0), 2, 5);
        rich.act("swap(1, 2)", x -> x.swap(1, 2), 0, 10);
        RunWorth one = with(NEVER);
        check.refused("swap(0, 0) of one", one, one.swap(0, 0), 5);
        check.refused("swap(0, 1) of one", one, one.swap(0, 1), 1);
    }

    /** "(who is NEXT stays NEXT, wherever): the BATTER at i then". */
    private static void swapNextStays() {
        RunWorth x = Edges.few();
        check.due("NEXT", x.about(5), 0);
        check.due("swap(0, 2)", x.swap(0, 2), 0);
        check.due("NEXT stays", x.about(5), 0);
        check.due("then bo", x.coming(1), 1);
        x.event(1);
        check.due("then bo", x.about(5), 1);
        check.due("swap(1, 2)", x.swap(1, 2), 2);
        check.due("NEXT stays, on the last place", x.about(5), 1);
        x.event(1);
        check.due("round", x.about(5), 0);
    }

    /** "lay(k): NONE: 1 (no TEXT); 2 (k 1 .. 3)." */
    private static void layRefused() {
        for (int k : new int[] {-1, 0, 4, 5, 6, FAR[0], FAR[1]}) {
            few.refused("lay(" + k + ")", x -> x.lay(k), 2);
            rich.refused("lay(" + k + ")", x -> x.lay(k), 2);
            none.refused("lay(" + k + ") without a TEXT", x -> x.lay(k), 1);
        }
    }

    /** "THE ORDER is BEST: how many places have another BATTER": none, two, all of them. */
    private static void layHowMany() {
        few.act("lay(1): ann, bo, cy", x -> x.lay(1), 2, 5);
        RunWorth x = with(NEVER, WALKS, ALWAYS, NEVER);
        check.due("lay(3)", x.lay(3), 0);
        check.due("that is an ACT, too", x.about(8), 1);
        order("lay(3)", x, 0, 1, 2, 3);
        check.due("lay(2)", x.lay(2), 3);
        order("lay(2)", x, 1, 2, 0, 3);
        check.due("NEXT stays", x.about(5), 0);
        check.due("lay(1)", x.lay(1), 3);
        order("lay(1)", x, 2, 0, 1, 3);
        x.event(1);
        check.due("behind a comes b", x.about(5), 1);
        x.event(1);
        check.due("behind b comes d", x.about(5), 3);
        check.due("lay(3)", x.lay(3), 3);
        check.due("NEXT stays, on the last place", x.about(5), 3);
        check.due("of one", with(ALWAYS).lay(3), 0);
    }

    /** "better(k): NONE: 1 (no TEXT); 2." */
    private static void betterRefused() {
        for (int k : new int[] {-1, 0, 6, FAR[0], FAR[1]}) {
            few.refused("better(" + k + ")", x -> x.better(k), 2);
            rich.refused("better(" + k + ")", x -> x.better(k), 2);
            none.refused("better(" + k + ") without a TEXT", x -> x.better(k), 1);
        }
        for (int k = 1; k <= 5; k++) {
            RunWorth x = Edges.few();
            x.better(k);
            check.due("better(" + k + ")", x.trouble(), 0);
            check.due("it is an ACT", x.about(8), 5);
        }
    }

    /** "as long as two places can be exchanged by which WORTH is more": not as much. */
    private static void betterAsLongAs() {
        few.act("better(1)", x -> x.better(1), 1, 5);
        RunWorth x = with(" 10 0 0 0 0 10", " 10 0 0 0 0 10");
        check.due("as much", x.better(1), 0);
        order("it stays", x, 0, 1);
        check.due("none is an ACT, too", x.about(8), 1);
        x.shift(1, 0, 5, 1);
        check.due("one twentieth more", x.better(1), 1);
        order("exchanged", x, 1, 0);
        check.due("no more", x.better(1), 0);
        check.due("NEXT stays", x.about(5), 0);
        check.due("of one", with(ALWAYS).better(5), 0);
        for (int k = 1; k <= 5; k++) {
            RunWorth y = with(" 9 3 4 2 1 1", " 12 5 1 0 0 2", " 10 2 6 2 0 0", " 13 1 1 1 1 3", " 20 0 0 0 0 0", " 5 5 5 5 0 0");
            y.better(k);
            for (int i = 0; i < 6; i++) {
                for (int j = 0; j < 6; j++) {
                    check.due("none is more then", y.exchanged(i, j, k) == 1 ? 1 : 0, 0);
                }
            }
        }
    }

    /** "those by which it is the most, of like ones the first (the lesser place, then the greater one)". */
    private static void betterOfLikeOnes() {
        RunWorth x = with(NEVER, " 19 0 0 0 0 1", ALWAYS, ALWAYS);
        check.due("better(1)", x.better(1), 1);
        order("the most, the first of two", x, 2, 1, 0, 3);
        // by 2: 0 with 3 and 1 with 3 bring one more each: the lesser place goes first
        x = with(NEVER, NEVER, " 20 0 0 0 0 0", ALWAYS);
        check.due("better(2)", x.better(2), 1);
        order("the lesser place", x, 3, 1, 2, 0);
        // by 2: 0 with 2, 0 with 3 are alike: the lesser of the greater ones; then 1 with 3
        x = with(NEVER, NEVER, ALWAYS, ALWAYS);
        check.due("better(2)", x.better(2), 2);
        order("the greater place", x, 2, 3, 0, 1);
    }

    /** "how often (60 at most)": never that often, as WORTH is more each time; of nine once by 1, three times by 3. */
    private static void betterHowOften() {
        RunWorth x = with(NEVER, NEVER, NEVER, NEVER, NEVER, NEVER, ALWAYS, ALWAYS, ALWAYS);
        check.due("better(1)", x.better(1), 1);
        order("6 is the first", x, 6, 1, 2, 3, 4, 5, 0, 7, 8);
        x.undo();
        check.due("better(3)", x.better(3), 3);
        order("6, 7, 8", x, 6, 7, 8, 3, 4, 5, 0, 1, 2);
        check.due("one ACT", x.about(8), 1);
        x.undo();
        check.due("better(5): all three ahead of the third OUT", x.better(5), 3);
        check.due("worth(5)", x.worth(5, 0), 3);
    }
}
