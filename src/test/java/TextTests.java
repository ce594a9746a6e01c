import java.util.NoSuchElementException;

/** Promises 1 to 5, 39, 40: a new object, feed, text, fault, where, named, size. */
public final class TextTests {
    private static final Check check = new Check("texts");
    private static final String OUTS = " 20 0 0 0 0 0";

    public static void main(String[] args) {
        newObject();
        feeding();
        goodTexts();
        faultOfForm();
        faultOfBounds();
        faultOfNames();
        faultOfNumbers();
        refusedTexts();
        aTextIsAnew();
        cutTexts();
        names();
        check.end();
    }

    private static void newObject() {
        RunWorth x = new RunWorth();
        check.due("P1 NONE", RunWorth.NONE, -1);
        check.due("P1 size()", x.size(), 0);
        check.due("P1 fault()", x.fault(), 0);
        check.due("P1 where()", x.where(), -1);
        check.due("P1 trouble()", x.trouble(), 0);
        check.refused("P1 about(0)", x, x.about(0), 1);
    }

    private static void feeding() {
        RunWorth x = new RunWorth();
        check.refused("P2 about", x, x.about(0), 1);
        for (int i = 1; i <= 25; i++) {
            check.due("P2 feed", x.feed(0x20202020, -1, Integer.MIN_VALUE, 0, 7), 20 * i);
            check.due("P40 size", x.size(), 20 * i);
        }
        check.due("P2 feed beyond 500", x.feed(0, 0, 0, 0, 0), -1);
        check.due("P40 size stays", x.size(), 500);
        check.due("P2 trouble() stays", x.trouble(), 1);
        check.refused("P3 bytes that begin no token", x, x.text(500), 4);
        check.due("P5 the first byte 255", x.where(), 4);
        check.due("P3 the tape is empty", x.size(), 0);
        check.due("P2 feed anew", x.feed(0, 0, 0, 0, 0), 20);
    }

    private static void goodTexts() {
        RunWorth x = new RunWorth();
        check.due("P3 one batter", Check.take(x, "batter a 10 9 1 0 0 0"), 1);
        check.due("P41", x.trouble(), 0);
        check.due("P4", x.fault(), 0);
        check.due("P3 without blanks", Check.take(x, "single2;batter bo1 2 3 4 5 5;tire99;steal00;fly1;double03"), 1);
        int[] rules = {2, 3, 1, 0, 99};
        for (int i = 0; i < 5; i++) {
            check.due("P7 rule " + i, x.rule(i), rules[i]);
        }
        for (int e = 0; e < 5; e++) {
            check.due("P8 batter(0," + e + ")", x.batter(0, e), e + 1);
        }
        check.due("P3 many blanks", Check.take(x, "   batter   abcdef   20 0   0 0 0 00   ;  fly   0   "), 1);
        StringBuilder nine = new StringBuilder();
        for (char c = 'a'; c <= 'i'; c++) {
            nine.append(c == 'a' ? "" : ";").append("batter ").append(c).append(OUTS);
        }
        check.due("P3 nine batters", Check.take(x, nine.toString()), 9);
        check.due("P3 only the first n bytes", Check.feed(x, "batter a" + OUTS + "@@"), 40);
        check.due("P3 only the first n bytes", x.text(21), 1);
        check.due("P3 the rest of the tape is gone", x.size(), 0);
        check.due("P3 names beginning like others", Check.take(x, "batter singl" + OUTS + ";batter singla" + OUTS + ";batter b" + OUTS), 3);
    }

    /** The fault and its place. */
    private static void faulty(String text, int fault, int place) {
        RunWorth x = new RunWorth();
        check.refused("P3 " + text, x, Check.take(x, text), 4);
        check.due("P4 " + text, x.fault(), fault);
        check.due("P5 " + text, x.where(), place);
        check.due("P40 " + text, x.size(), 0);
    }

    private static void faultOfForm() {
        faulty("", 1, 0);
        faulty("   ", 1, 3);
        faulty("batter", 1, 6);
        faulty("batter a  ", 1, 10);
        faulty("batter a 10 10 0 0 0", 1, 20);
        faulty("batter a" + OUTS + ";", 1, 22);
        faulty("batter a" + OUTS + " ; ", 1, 24);
        faulty(";batter a" + OUTS, 1, 0);
        faulty("batter a" + OUTS + ";;", 1, 22);
        faulty("batter a" + OUTS + " 1", 1, 22);
        faulty("batter a" + OUTS + " b", 1, 22);
        faulty("batter 1", 1, 7);
        faulty("batter batter" + OUTS, 1, 7);
        faulty("batter single" + OUTS, 1, 7);
        faulty("batter double" + OUTS, 1, 7);
        faulty("batter fly" + OUTS, 1, 7);
        faulty("batter steal" + OUTS, 1, 7);
        faulty("batter tire" + OUTS, 1, 7);
        faulty("batter abcdefg" + OUTS, 1, 7);
        faulty("batterann" + OUTS, 1, 0);
        faulty("pitcher a" + OUTS, 1, 0);
        faulty("catch 3", 1, 0);
        faulty("12 batter", 1, 0);
        faulty("single", 1, 6);
        faulty("single ;", 1, 7);
        faulty("single a", 1, 7);
        faulty("single 001;batter a" + OUTS, 1, 7);
        faulty("batter a 020 0 0 0 0 0", 1, 9);
        faulty("Batter a" + OUTS, 1, 0);
        faulty("batter A" + OUTS, 1, 7);
        faulty("batter a\t20 0 0 0 0 0", 1, 8);
        faulty("batter a" + OUTS + "\n", 1, 21);
        faulty("batter \u00e4" + OUTS, 1, 7);
        faulty("batter a" + OUTS + ",", 1, 21);
        faulty("batter a -1 20 0 0 0 1", 1, 9);
        faulty("batter a`" + OUTS, 1, 8);
        faulty("batter a{" + OUTS, 1, 8);
        faulty("batter a/" + OUTS, 1, 8);
        faulty("batter a:" + OUTS, 1, 8);
    }

    private static void faultOfBounds() {
        faulty("batter a 21 0 0 0 0 0", 2, 9);
        faulty("batter a 0 99 0 0 0 0", 2, 11);
        faulty("batter a 10 0 0 0 0 9", 2, 20);
        faulty("batter a 10 0 0 0 0 11", 2, 20);
        faulty("batter a 20 20 0 0 0 0", 2, 21);
        faulty("single 0", 2, 7);
        faulty("single 3", 2, 7);
        faulty("double 1", 2, 7);
        faulty("double 4", 2, 7);
        faulty("fly 2", 2, 4);
        faulty("steal 21", 2, 6);
        faulty("tire 0", 2, 5);
        faulty("tire 00", 2, 5);
    }

    private static void faultOfNames() {
        faulty("batter a" + OUTS + ";batter a" + OUTS, 3, 29);
        faulty("batter ab" + OUTS + ";batter a" + OUTS + ";batter ab 99", 3, 52);
        faulty("fly 1;fly 9", 3, 6);
        faulty("single 1;batter a" + OUTS + ";single", 3, 31);
        faulty("double 2;double 2", 3, 9);
        faulty("steal 2;tire 2; steal 2", 3, 16);
        faulty("tire 2;tire 2", 3, 7);
    }

    private static void faultOfNumbers() {
        StringBuilder nine = new StringBuilder();
        for (char c = 'a'; c <= 'i'; c++) {
            nine.append("batter ").append(c).append(OUTS).append(';');
        }
        faulty(nine + "batter j" + OUTS, 4, 198);
        faulty(nine + "fly 1;batter a", 4, 204);
        faulty(nine + "", 1, 198);
        faulty("fly 1", 5, 5);
        faulty("fly 1;single 2  ", 5, 16);
    }

    private static void refusedTexts() {
        RunWorth x = Check.with("batter a 10 9 1 0 0 0;batter b" + OUTS);
        x.event(5);
        Check.feed(x, "batter zed" + OUTS);
        check.refused("P3 n below 0", x, x.text(-1), 2);
        check.refused("P3 n beyond the tape", x, x.text(41), 2);
        check.refused("P3 n beyond the tape", x, x.text(Integer.MAX_VALUE), 2);
        check.due("P3 by 2 the tape stays", x.size(), 40);
        check.due("P5 by 2", x.where(), -1);
        check.refused("P3 within the text", x, x.text(10), 4);
        check.due("P5 where()", x.where(), 10);
        check.due("P5 where() stays behind calls that are never refused", x.where() + x.fault() + x.size(), 11);
        check.refused("P3 by 2 fault() stays", x, x.text(1), 2);
        check.due("P4 fault() stays by 2", x.fault(), 1);
        check.due("P5 but where() doesn't", x.where(), -1);
        check.due("P3 what is refused changes nothing", x.about(4), 1);
        check.due("P3 what is refused changes nothing", x.about(8), 1);
        check.due("P3 what is refused changes nothing", x.about(0), 2);
        check.due("P3 what is refused changes nothing", x.batter(0, 1), 9);
        Check.feed(x, "a");
        check.due("P39 names stay", x.named(1), 0);
        check.refused("P3 again", x, x.text(1), 4);
        check.due("P5 again", x.where(), 0);
        check.due("P6 then another call", x.about(0), 2);
        check.due("P5 where() behind a call that wasn't refused", x.where(), -1);
        check.due("P4 fault()", x.fault(), 1);
        Check.take(x, "batter a" + OUTS);
        check.due("P4 fault() behind a good one", x.fault(), 0);
    }

    private static void aTextIsAnew() {
        RunWorth x = Check.with("single 2;double 3;fly 1;steal 1;tire 1;batter a" + OUTS + ";batter b" + OUTS);
        x.swap(0, 1);
        x.event(5);
        x.event(0);
        x.event(0);
        x.event(0);
        x.event(1);
        check.due("P3 anew", Check.take(x, "batter c" + OUTS + ";batter d" + OUTS), 2);
        int[] about = {2, 1, 0, 0, 0, 0, 0, 0, 0};
        for (int i = 0; i < 9; i++) {
            check.due("P3 about(" + i + ") anew", x.about(i), about[i]);
        }
        int[] rules = {1, 2, 0, 14, 30};
        for (int i = 0; i < 5; i++) {
            check.due("P3 rule(" + i + ") anew", x.rule(i), rules[i]);
        }
        check.due("P3 the order is anew", x.place(0), 0);
        check.due("P3 events by the new rules", x.after(7, 0, 2, 0), 7);
        check.refused("P38 a text leaves no acts", x, x.undo(), 5);
    }

    private static void cutTexts() {
        RunWorth x = new RunWorth();
        Check.feed(x, "batter a 15 0 0 0 0 05");
        check.refused("P3 the last digit isn't of the text", x, x.text(21), 4);
        check.due("P4", x.fault(), 2);
        check.due("P5", x.where(), 20);
        Check.feed(x, "batter a 15 0 0 0 0 05");
        check.due("P3 it is", x.text(22), 1);
        check.due("P8", x.batter(0, 5), 5);
        for (int i = 0; i < 2; i++) {
            check.due("P3 each rule once in each text",
                Check.take(x, "single 2;double 3;fly 1;steal 3;tire 4;batter b" + OUTS), 1);
        }
        Check.take(x, "batter a" + OUTS + ";batter b" + OUTS + ";batter c" + OUTS);
        Check.take(x, "batter d" + OUTS);
        Check.feed(x, "d b");
        check.due("P39 of this text", named(x, 1), 0);
        Check.take(x, " ");
        Check.feed(x, "b");
        check.due("P39 of an earlier text", named(x, 1), -99);
    }

    private static int named(RunWorth x, int n) {
        try {
            return x.named(n);
        } catch (NoSuchElementException none) {
            return -99;
        }
    }

    private static void names() {
        RunWorth x = new RunWorth();
        Check.feed(x, "ann");
        check.due("P39 without a text", named(x, 3), -99);
        x = Check.with("batter ann" + OUTS + ";batter abcdef" + OUTS + ";batter an" + OUTS);
        check.refused("P39 a refusal ahead", x, x.about(9), 1);
        Check.feed(x, "ann     abcdef   an ");
        check.due("P39 ann", named(x, 3), 0);
        check.due("P39 an", named(x, 2), 2);
        check.due("P39 blanks behind", named(x, 8), 0);
        check.due("P39 a", named(x, 1), -99);
        check.due("P39 nothing", named(x, 0), -99);
        check.due("P39 two words", named(x, 9), -99);
        check.due("P39 n below 0", named(x, -1), -99);
        check.due("P39 n beyond", named(x, 21), -99);
        check.due("P39 n beyond", named(x, Integer.MAX_VALUE), -99);
        check.due("P39 n beyond", named(x, Integer.MIN_VALUE), -99);
        check.due("P39 trouble() stays", x.trouble(), 1);
        check.due("P39 the tape stays", x.size(), 20);
        x.text(0);
        Check.feed(x, "   abcdef ");
        check.due("P39 blanks ahead", named(x, 9), 1);
        check.due("P39 blanks ahead, behind", named(x, 20), 1);
        check.due("P39 where() stays", x.where(), 0);
        x.text(0);
        Check.feed(x, "ann;ann1 Ann batter");
        check.due("P39 ann;", named(x, 4), -99);
        check.due("P39 ann;", named(x, 3), 0);
        x.text(0);
        Check.feed(x, "batter");
        check.due("P39 batter", named(x, 6), -99);
        x.text(0);
        Check.feed(x, "ann1");
        check.due("P39 ann1", named(x, 4), -99);
        x.text(0);
        Check.feed(x, "abcdefg");
        check.due("P39 seven letters", named(x, 7), -99);
        check.due("P39 six of them", named(x, 6), 1);
        x.text(0);
        Check.feed(x, "12");
        check.due("P39 digits", named(x, 2), -99);
    }
}
