import java.util.NoSuchElementException;
import java.util.Random;

/** Any numbers in any state: nothing is thrown but what the document names, and what is refused changes nothing. */
public final class StormTests {
    private static final Check check = new Check("storm");
    private static final int[] EDGES = {
        Integer.MIN_VALUE, Integer.MIN_VALUE + 1, -1, 0, 1, 2, 3, 5, 6, 8, 9, 20, 21, 40, 99, 500, 999, 1000, 65536,
        Integer.MAX_VALUE - 1, Integer.MAX_VALUE
    };
    private static final String[] TEXTS = {
        "", ";", "batter a 20 0 0 0 0 0", "batter a 1 2 3 4 5 5;batter b 0 0 0 0 0 20;steal 9;tire 1",
        "batter a 1 2 3 4 5 5;batter b 10 5 5 0 0 0;batter c 12 3 3 1 0 1;batter d 15 1 2 1 0 1;batter e 14 2 2 1 0 1;"
            + "batter f 13 3 2 1 0 1;batter g 11 4 3 1 0 1;batter h 16 2 1 1 0 0;batter i 9 9 1 1 0 0;fly 1;single 2;double 3"
    };

    private static final Random random = new Random(20);

    public static void main(String[] args) {
        for (int run = 0; run < 300; run++) {
            RunWorth x = new RunWorth();
            for (int call = 0; call < 500; call++) {
                try {
                    if (call % 97 == run % 97) {
                        Check.take(x, TEXTS[random.nextInt(TEXTS.length)]);
                    }
                    long before = sum(x);
                    int score = x.about(4);
                    long answer = call(x, random.nextInt(36));
                    if (x.trouble() == 1 || x.trouble() == 2 || x.trouble() == 5) {
                        check.due("what is refused answers", answer, -1);
                        check.due("what is refused changes nothing", sum(x), before);
                        check.due("what is refused changes nothing", x.about(4), score);
                    }
                } catch (NoSuchElementException none) {
                    check.due("it is thrown by named alone", 0, 0);
                } catch (RuntimeException thrown) {
                    check.due("run " + run + " call " + call + " threw " + thrown, 1, 0);
                }
            }
        }
        check.end();
    }

    private static int some() {
        return random.nextInt(3) > 0 ? random.nextInt(6) : EDGES[random.nextInt(EDGES.length)];
    }

    private static long sum(RunWorth x) {
        long sum = x.size() * 31L + x.fault();
        for (int what = 0; what < 9; what++) {
            sum = sum * 31 + x.about(what);
            sum = sum * 31 + x.place(what);
            sum = sum * 31 + x.batter(what, 0) + 7L * x.batter(what, 5);
            sum = sum * 31 + x.log(what, 1);
            sum = sum * 31 + x.rule(what);
        }
        return sum;
    }

    private static long call(RunWorth x, int which) {
        int a = some();
        int b = some();
        int c = some();
        int d = some();
        int e = some();
        boolean wise = random.nextBoolean();
        switch (which) {
            case 0: return x.text(a);
            case 1: return x.about(a);
            case 2: return x.rule(a);
            case 3: return x.batter(a, b);
            case 4: return x.place(a);
            case 5: return x.coming(a);
            case 6: return x.chance(a, b, c);
            case 7: return x.after(a, b, c, d);
            case 8: return x.plain(a, b, c, d);
            case 9: return x.any(a, b, c, d);
            case 10: return x.wise(a, b, c, d);
            case 11: return x.choice(a, b, c);
            case 12: return x.chosen(a, b, c, d, e);
            case 13: return x.breaksEven(a, b, c);
            case 14: return x.table(a, b, c, d);
            case 15: return x.worth(a, b);
            case 16: return x.best(a, b);
            case 17: return x.bestAt(a, b);
            case 18: return x.exchanged(a, b, c);
            case 19: return x.log(a, b);
            case 20: return x.added(a, b, c);
            case 21: return x.credit(a, b, c);
            case 22: return x.all(a, b);
            case 23: return x.innings(a, b, wise, c);
            case 24: case 25: case 26: return x.event(a);
            case 27: return x.play(a, b, wise);
            case 28: return x.relieve();
            case 29: return x.swap(a, b);
            case 30: return x.lay(a);
            case 31: return x.better(a);
            case 32: return x.shift(a, b, c, d);
            case 33: return x.become(a, b);
            case 34: return x.undo();
            default: x.coming(0); return x.named(a);
        }
    }
}
