import java.util.NoSuchElementException;
import java.util.Random;

/** Any numbers in any state: nothing is thrown but what the document names, and what is refused changes nothing. */
public final class StormTests {
    private static final Check check = new Check("storm");
    private static final int[] EDGES = {
        Integer.MIN_VALUE, Integer.MIN_VALUE + 1, -1, 0, 1, 2, 3, 5, 6, 8, 9, 20, 21, 40, 99, 500, 999, 1000, 65536,
        Integer.MAX_VALUE - 1, Integer.MAX_VALUE
    };
    private static final String[] TEXTS = {
        "", ";", "batter a 20 0 0 0 0 0", "batter a 1 2 3 4 5 5;batter b 0 0 0 0 0 20;steal 9;tire 1",
        "batter a 1 2 3 4 5 5;batter b 10 5 5 0 0 0;batter c 12 3 3 1 0 1;batter d 15 1 2 1 0 1;batter e 14 2 2 1 0 1;"
            + "batter f 13 3 2 1 0 1;batter g 11 4 3 1 0 1;batter h 16 2 1 1 0 0;batter i 9 9 1 1 0 0;fly 1;single 2;double 3"
    };

    private static final Random random = new Random(20);

    private final int[] numbers = new int[5];
    private boolean wise;
    private final RunWorth x = new RunWorth();
    /** It gets the same calls but those that x refused: so it must stand as x does. */
    private final RunWorth twin = new RunWorth();

    public static void main(String[] args) {
        for (int run = 0; run < 1500; run++) {
            new StormTests().go(run);
        }
        check.end();
    }

    /** With what is asked at the end an object has less than 512 calls. */
    private void go(int run) {
        int calls = 0;
        while (calls < 400) {
            if (calls == 0 || random.nextInt(97) == 0) {
                String text = TEXTS[random.nextInt(TEXTS.length)];
                check.due("text", Check.take(x, text), Check.take(twin, text));
                calls += 30;
            }
            oneCall(run);
            calls += 3;
        }
        check.due("what is refused changes nothing, run " + run, sum(x), sum(twin));
    }

    private void oneCall(int run) {
        int which = random.nextInt(36);
        for (int i = 0; i < numbers.length; i++) {
            numbers[i] = some();
        }
        wise = random.nextBoolean();
        try {
            long answer = call(x, which);
            int trouble = x.trouble();
            if (trouble == 1 || trouble == 2 || trouble == 5) {
                check.due("what is refused answers", answer, -1);
            } else {
                check.due("what isn't is answered alike", call(twin, which), answer);
            }
        } catch (NoSuchElementException none) {
            check.due("it is thrown by named alone", which, 35);
        } catch (RuntimeException thrown) {
            check.due("run " + run + ", call " + which + " threw " + thrown, 1, 0);
        }
    }

    private static int some() {
        return random.nextInt(3) > 0 ? random.nextInt(6) : EDGES[random.nextInt(EDGES.length)];
    }

    private static long sum(RunWorth x) {
        long sum = x.size() * 31L + x.fault();
        for (int what = 0; what < 9; what++) {
            sum = sum * 31 + x.about(what);
            sum = sum * 31 + x.place(what);
            sum = sum * 31 + x.batter(what, 0) + 7L * x.batter(what, 5);
            sum = sum * 31 + x.log(what, 1);
            sum = sum * 31 + x.rule(what);
        }
        return sum;
    }

    private long call(RunWorth x, int which) {
        int a = numbers[0];
        int b = numbers[1];
        int c = numbers[2];
        int d = numbers[3];
        int e = numbers[4];
        switch (which) {
            case 0: return x.text(a);
            case 1: return x.about(a);
            case 2: return x.rule(a);
            case 3: return x.batter(a, b);
            case 4: return x.place(a);
            case 5: return x.coming(a);
            case 6: return x.chance(a, b, c);
            case 7: return x.after(a, b, c, d);
            case 8: return x.plain(a, b, c, d);
            case 9: return x.any(a, b, c, d);
            case 10: return x.wise(a, b, c, d);
            case 11: return x.choice(a, b, c);
            case 12: return x.chosen(a, b, c, d, e);
            case 13: return x.breaksEven(a, b, c);
            case 14: return x.table(a, b, c, d);
            case 15: return x.worth(a, b);
            case 16: return x.best(a, b);
            case 17: return x.bestAt(a, b);
            case 18: return x.exchanged(a, b, c);
            case 19: return x.log(a, b);
            case 20: return x.added(a, b, c);
            case 21: return x.credit(a, b, c);
            case 22: return x.all(a, b);
            case 23: return x.innings(a, b, wise, c);
            case 24: case 25: case 26: return x.event(a);
            case 27: return x.play(a, b, wise);
            case 28: return x.relieve();
            case 29: return x.swap(a, b);
            case 30: return x.lay(a);
            case 31: return x.better(a);
            case 32: return x.shift(a, b, c, d);
            case 33: return x.become(a, b);
            case 34: return x.undo();
            default: x.coming(0); return x.named(a);
        }
    }
}
