/** What the tests share: holding answers against what is due, and feeding texts. */
final class Check {
    private static final String BLANKS = " ".repeat(20);

    private final String title;
    private int made;
    private int wrong;

    Check(String title) {
        this.title = title;
    }

    void due(String call, long got, long want) {
        made++;
        if (got != want) {
            wrong++;
            System.out.println(title + ": " + call + " answered " + got + ", due is " + want);
        }
    }

    void alike(String call, String got, String want) {
        made++;
        if (!got.equals(want)) {
            wrong++;
            System.out.println(title + ": " + call + " told\n  " + got + "\n  due is\n  " + want);
        }
    }

    /** The call was refused, and trouble() tells why. */
    void refused(String call, RunWorth x, long got, int trouble) {
        due(call, got, RunWorth.NONE);
        due("trouble() behind " + call, x.trouble(), trouble);
    }

    /** The call was refused by 2 or the like though its answer may be -1 as a number. */
    void fraction(String call, long above, long below, long wantAbove, long wantBelow) {
        due(call + " above", above, wantAbove);
        due(call + " below", below, wantBelow);
    }

    /** Feeds the bytes of a text, filled up by blanks to a multiple of twenty; how many the tape has then. */
    static int feed(RunWorth x, String text) {
        int size = x.size();
        for (int from = 0; from < text.length(); from += 20) {
            String s = (text.substring(from) + BLANKS).substring(0, 20);
            size = x.feed(four(s, 0), four(s, 4), four(s, 8), four(s, 12), four(s, 16));
        }
        return size;
    }

    private static int four(String s, int at) {
        return (s.charAt(at) & 255) << 24 | (s.charAt(at + 1) & 255) << 16 | (s.charAt(at + 2) & 255) << 8 | s.charAt(at + 3) & 255;
    }

    /** Feeds a text to an empty tape and takes it. */
    static int take(RunWorth x, String text) {
        feed(x, text);
        return x.text(text.length());
    }

    static RunWorth with(String text) {
        RunWorth x = new RunWorth();
        take(x, text);
        return x;
    }

    void end() {
        System.out.println(title + ": " + made + " answers looked at, " + wrong + " wrong");
        if (wrong != 0) {
            System.exit(1);
        }
    }
}
