import java.util.NoSuchElementException;
import java.util.function.Supplier;

/**
 * Both sides of a boundary: each call is made of objects just made, and all that can be told of them behind it
 * is held against what an untouched one tells. No object is used for more than 512 calls.
 */
final class Edges {
    interface Call {
        long of(RunWorth x);
    }

    static final int THROWN = -99;
    static final String THREE = "batter ann 8 2 4 3 2 1;batter bo 12 3 3 1 0 1;batter cy 20 0 0 0 0 0;tire 7;steal 9;fly 1";

    /** Those beyond the tape: what is told, what is undone, what is behind events, what is to come, and so on. */
    private static final int LASTING = 7;
    private static final int TAPE = LASTING;
    private static final int VIEWS = LASTING + 1;
    private static final int MOST_NAMED = 60;

    private final Check check;
    private final Supplier<RunWorth> made;
    private final String[] untouched = new String[VIEWS];
    private final int trouble;
    private final int where;

    Edges(Check check, Supplier<RunWorth> made) {
        this.check = check;
        this.made = made;
        for (int v = 0; v < VIEWS; v++) {
            untouched[v] = view(v, made.get());
        }
        trouble = made.get().trouble();
        where = made.get().where();
    }

    // ---- objects to begin with

    /** No TEXT, though one was refused; a name on THE TAPE. */
    static RunWorth empty() {
        RunWorth x = new RunWorth();
        refuseText(x);
        return x;
    }

    /** A game that stands: ORDER cy bo ann, NEXT ann, runners on first and third, 1 OUT, 4 ACTS, 3 rows, nothing refused. */
    static RunWorth few() {
        RunWorth x = Check.with(THREE);
        x.swap(0, 2);
        x.event(0);
        x.event(4);
        x.event(1);
        return x;
    }

    /** A LOG that is full, more than ten ACTS, a FAULT, a TAPE. */
    static RunWorth rich() {
        RunWorth x = Check.with(THREE);
        x.play(7, 20, true);
        x.play(8, 20, false);
        x.swap(0, 2);
        x.shift(1, 0, 5, 2);
        x.become(0, 2);
        x.relieve();
        x.event(5);
        x.event(1);
        x.event(7);
        x.become(4, 5);
        x.event(2);
        x.event(1);
        refuseText(x);
        return x;
    }

    /** A FAULT 2 at 9; then a name and more on THE TAPE. */
    private static void refuseText(RunWorth x) {
        Check.take(x, "batter x 21");
        Check.feed(x, "cy batter bo");
    }

    // ---- calls

    /** The call answers so; trouble() is 0, where() NONE. */
    void taken(String sentence, Call call, long due) {
        RunWorth x = made.get();
        check.due(sentence, call.of(x), due);
        check.due("trouble() behind " + sentence, x.trouble(), 0);
        check.due("where() behind " + sentence, x.where(), RunWorth.NONE);
    }

    /** It is taken, and changes nothing. */
    void told(String sentence, Call call, long due) {
        taken(sentence, call, due);
        nothingChanges(sentence, call);
    }

    /** The ACT is taken, and undone all is as it was; how many ACTS there are then, and behind the undo. */
    void act(String sentence, Call call, long due, int acts) {
        taken(sentence, call, due);
        RunWorth x = made.get();
        call.of(x);
        check.due("ACTS behind " + sentence, x.about(8), acts);
        check.due("undo() behind " + sentence, x.undo(), acts - 1);
        check.due("trouble() behind that undo()", x.trouble(), 0);
        for (int v = 0; v < VIEWS; v++) {
            x = made.get();
            call.of(x);
            x.undo();
            // of ten ACTS the first one is lost by one more
            if (v != 1 || acts < 10) {
                check.alike("undone " + sentence + ", view " + v, view(v, x), untouched[v]);
            }
        }
    }

    /** NONE; trouble() tells why, where() NONE; nothing else changes. */
    void refused(String sentence, Call call, int why) {
        RunWorth x = made.get();
        check.due(sentence, call.of(x), RunWorth.NONE);
        check.due("where() behind " + sentence, x.where(), RunWorth.NONE);
        check.due("trouble() behind " + sentence, x.trouble(), why);
        nothingChanges(sentence, call);
    }

    /** A call that is never refused by a number: trouble(), where() stay, too. */
    void aside(String sentence, Call call, long due) {
        RunWorth x = made.get();
        check.due(sentence, call.of(x), due);
        check.due("trouble() stays by " + sentence, x.trouble(), trouble);
        check.due("where() stays by " + sentence, x.where(), where);
        nothingChanges(sentence, call);
    }

    private void nothingChanges(String sentence, Call call) {
        for (int v = 0; v < VIEWS; v++) {
            RunWorth x = made.get();
            call.of(x);
            check.alike(sentence + ", view " + v, view(v, x), untouched[v]);
        }
    }

    /** A text that is refused by 4: THE TAPE is empty, fault() tells why, where() where; nothing else changes. */
    void faulty(String text, int fault, int place) {
        RunWorth x = made.get();
        x.text(0);
        check.due("text " + text, Check.take(x, text), RunWorth.NONE);
        check.due("trouble() by " + text, x.trouble(), 4);
        check.due("fault() by " + text, x.fault(), fault);
        check.due("where() by " + text, x.where(), place);
        check.due("size() by " + text, x.size(), 0);
        for (int v = 0; v < LASTING; v++) {
            x = made.get();
            x.text(0);
            Check.take(x, text);
            check.alike("text " + text + ", view " + v, view(v, x), untouched[v]);
        }
    }

    /** A text that is taken: all is anew, as by the same text on a new object. */
    void anew(String text, int batters) {
        RunWorth x = made.get();
        x.text(0);
        check.due("text " + text, Check.take(x, text), batters);
        check.due("trouble() by " + text, x.trouble(), 0);
        check.due("fault() by " + text, x.fault(), 0);
        check.due("where() by " + text, x.where(), RunWorth.NONE);
        check.due("size() by " + text, x.size(), 0);
        for (int v = 0; v < VIEWS; v++) {
            x = made.get();
            x.text(0);
            Check.take(x, text);
            check.alike("text " + text + ", view " + v, view(v, x), view(v, Check.with(text)));
        }
    }

    // ---- what can be told of an object; it is worn out by it

    private static String view(int which, RunWorth x) {
        StringBuilder s = new StringBuilder();
        switch (which) {
            case 0: standing(s, x, 6); break;
            case 1: undone(s, x); break;
            case 2: events(s, x); break;
            case 3: ahead(s, x); break;
            case 4: paper(s, x); break;
            case 5: goingOn(s, x); break;
            case 6: orders(s, x); break;
            default: tape(s, x); break;
        }
        return s.toString();
    }

    private static void put(StringBuilder s, long answer) {
        s.append(answer).append(' ');
    }

    private static void standing(StringBuilder s, RunWorth x, int columns) {
        for (int what = 0; what < 8; what++) {
            put(s, x.about(what));
        }
        for (int what = 0; what < 5; what++) {
            put(s, x.rule(what));
        }
        for (int b = 0; b < x.about(0); b++) {
            put(s, x.place(b));
            put(s, x.coming(b));
            for (int what = 0; what < 9; what++) {
                put(s, x.batter(b, what));
            }
        }
        int rows = x.about(7);
        for (int i = 0; i < rows; i++) {
            for (int what = 0; what < columns; what++) {
                put(s, x.log(i, what));
            }
        }
    }

    private static void undone(StringBuilder s, RunWorth x) {
        int acts = x.about(8);
        put(s, acts);
        for (int i = 0; i < acts; i++) {
            s.append('\n');
            put(s, x.undo());
            for (int what = 1; what < 9; what++) {
                put(s, x.about(what));
            }
            for (int what = 0; what < 5; what++) {
                put(s, x.rule(what));
            }
            for (int b = 0; b < 3; b++) {
                put(s, x.place(b));
                for (int e = 0; e < 6; e++) {
                    put(s, x.batter(b, e));
                }
            }
            put(s, x.log(0, 1));
            put(s, x.log(39, 1));
            put(s, x.after(7, 0, 2, 0));
            put(s, x.after(7, 0, 0, 0));
        }
        put(s, x.undo());
    }

    private static void events(StringBuilder s, RunWorth x) {
        for (int bases = 0; bases < 8; bases++) {
            for (int e = 0; e < 9; e++) {
                for (int what = 0; what < 3; what++) {
                    put(s, x.after(bases, 1, e, what));
                }
                put(s, x.after(bases, 0, e, 0));
                put(s, x.after(bases, 2, e, 0));
            }
        }
    }

    private static void ahead(StringBuilder s, RunWorth x) {
        int[] states = {0, 9, 5, 23};
        for (int k = 1; k <= 5; k++) {
            for (int state : states) {
                for (int what = 0; what < 2; what++) {
                    put(s, x.plain(state & 7, state >> 3, k, what));
                    put(s, x.any(state & 7, state >> 3, k, what));
                    put(s, x.wise(state & 7, state >> 3, k, what));
                    put(s, x.table(state & 7, state >> 3, k, what));
                }
                put(s, x.choice(state & 7, state >> 3, k));
            }
            put(s, x.breaksEven(1, 0, k));
            put(s, x.all(k, 0));
            put(s, x.all(k, 1));
        }
    }

    private static void paper(StringBuilder s, RunWorth x) {
        for (int what = 0; what < 3; what++) {
            put(s, x.innings(11, 9, false, what));
            put(s, x.innings(12, 3, true, what));
        }
        int rows = x.about(7);
        for (int i = 0; i < rows; i++) {
            put(s, x.added(i, 2, 0));
            put(s, x.added(i, 2, 1));
        }
        for (int b = 0; b < 3; b++) {
            put(s, x.credit(b, 1, 0));
            put(s, x.chance(b, 0, 20));
            put(s, x.chance(b, 2, 999));
        }
    }

    /** The same acts from here on. */
    private static void goingOn(StringBuilder s, RunWorth x) {
        put(s, x.event(1));
        put(s, x.play(99, 8, true));
        put(s, x.play(77, 8, false));
        put(s, x.undo());
        put(s, x.swap(1, 2));
        put(s, x.relieve());
        put(s, x.shift(0, 0, 4, 3));
        put(s, x.become(1, 3));
        standing(s, x, 4);
        put(s, x.begin());
        put(s, x.about(5));
        Check.take(x, "");
        put(s, Check.take(x, "batter bo 0 0 0 0 0 20;batter cy 20 0 0 0 0 0"));
        standing(s, x, 1);
        put(s, x.undo());
    }

    private static void orders(StringBuilder s, RunWorth x) {
        int batters = x.about(0);
        for (int k = 1; k <= 5; k++) {
            put(s, x.worth(k, 0));
            put(s, x.worth(k, 1));
            for (int i = 0; i < batters; i++) {
                put(s, x.exchanged(0, i, k));
            }
        }
        for (int k = 1; k <= 3; k++) {
            put(s, x.best(k, 0));
            put(s, x.best(k, 1));
            for (int i = 0; i < batters; i++) {
                put(s, x.bestAt(k, i));
            }
            put(s, x.lay(k));
            put(s, x.undo());
        }
        put(s, x.better(5));
        for (int i = 0; i < batters; i++) {
            put(s, x.place(i));
        }
        Check.take(x, "");
        for (String name : new String[] {"ann", "bo", "cy"}) {
            Check.feed(x, name);
            put(s, named(x, name.length()));
            x.text(0);
        }
    }

    private static void tape(StringBuilder s, RunWorth x) {
        put(s, x.fault());
        put(s, x.size());
        for (int n = Math.max(0, x.size() - MOST_NAMED); n <= x.size(); n++) {
            put(s, named(x, n));
        }
        put(s, x.text(x.size()));
        put(s, x.fault());
        put(s, x.where());
        put(s, x.about(0));
    }

    static int named(RunWorth x, int n) {
        try {
            return x.named(n);
        } catch (NoSuchElementException none) {
            return THROWN;
        }
    }
}
