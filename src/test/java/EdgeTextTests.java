/**
 * Boundaries of Terms I and of promises 1 to 5, 39 to 41: each method's remark tells the sentence of the document.
 */
public final class EdgeTextTests {
    private static final Check check = new Check("edges of texts");
    private static final Edges none = new Edges(check, Edges::empty);
    private static final Edges few = new Edges(check, Edges::few);
    private static final Edges rich = new Edges(check, Edges::rich);
    private static final String OUTS = " 20 0 0 0 0 0";
    private static final String[] KEYS = {"single", "double", "fly", "steal", "tire"};
    private static final int[] LEAST = {1, 2, 0, 0, 1};
    private static final int[] MOST = {2, 3, 1, 20, 99};
    private static final int[] WITHOUT = {1, 2, 0, 14, 30};

    public static void main(String[] args) {
        newObject();
        tapeHas500Bytes();
        tapeOf500IsTaken();
        tapeOf500IsRefused();
        eachByteOfFeed();
        textTakesFirstBytes();
        textBeyondTheTape();
        emptyText();
        tapeIsEmptyThen();
        allIsAnew();
        blanksPartTokens();
        lettersOfWords();
        digitsOfWholes();
        semicolons();
        wordsOfOneToSix();
        wholesOfOneOrTwo();
        chancesFrom0To20();
        twentyTogether();
        upToNineBatters();
        boundsOfRules();
        rulesWithout();
        rulesOnceEach();
        nameButKeys();
        noTwoAlike();
        tokensThatGoOn();
        endOfTheText();
        thereIsNoBatter();
        firstTokenFromTheLeft();
        leastNumberOfOneToken();
        faultOfLatest();
        whereOfLatest();
        namedWithinTape();
        namedBlanksAside();
        namedNoneSuch();
        namedAtTheEndOf500();
        sizeOfTape();
        troubleOfLatest();
        check.end();
    }

    private static void good(String sentence, String text, int batters) {
        RunWorth x = new RunWorth();
        check.due(sentence + ": " + text, Check.take(x, text), batters);
        check.due("trouble() by " + text, x.trouble(), 0);
        check.due("where() by " + text, x.where(), -1);
        check.due("fault() by " + text, x.fault(), 0);
        check.due("about(0) by " + text, x.about(0), batters);
    }

    /** On objects without a TEXT and with one. */
    private static void faulty(String text, int fault, int place) {
        none.faulty(text, fault, place);
        few.faulty(text, fault, place);
    }

    private static String batters(int n, String behind) {
        StringBuilder s = new StringBuilder();
        for (int b = 0; b < n; b++) {
            s.append("batter ").append((char) ('a' + b)).append(OUTS).append(b + 1 < n ? ";" : behind);
        }
        return s.toString();
    }

    /** "RunWorth(): No TEXT."; "fault(): 0 .. ahead of any"; every call that needs a TEXT is refused by 1. */
    private static void newObject() {
        RunWorth x = new RunWorth();
        check.due("NONE", RunWorth.NONE, -1);
        check.due("size()", x.size(), 0);
        check.due("fault()", x.fault(), 0);
        check.due("where()", x.where(), -1);
        check.due("trouble()", x.trouble(), 0);
        Edges fresh = new Edges(check, RunWorth::new);
        Edges.Call[] calls = {
            y -> y.about(0), y -> y.rule(0), y -> y.batter(0, 0), y -> y.place(0), y -> y.coming(0), y -> y.chance(0, 0, 0),
            y -> y.after(0, 0, 0, 0), y -> y.plain(0, 0, 1, 0), y -> y.any(0, 0, 1, 0), y -> y.wise(0, 0, 1, 0),
            y -> y.choice(0, 0, 1), y -> y.chosen(0, 0, 1, 0, 0), y -> y.breaksEven(1, 0, 1), y -> y.table(0, 0, 1, 0),
            y -> y.worth(1, 0), y -> y.best(1, 0), y -> y.bestAt(1, 0), y -> y.exchanged(0, 0, 1), y -> y.log(0, 0),
            y -> y.added(0, 1, 0), y -> y.credit(0, 1, 0), y -> y.all(1, 0), y -> y.innings(1, 1, false, 0), y -> y.event(0),
            y -> y.play(1, 1, false), y -> y.relieve(), y -> y.begin(), y -> y.swap(0, 1), y -> y.lay(1), y -> y.better(1),
            y -> y.shift(0, 0, 1, 1), y -> y.become(0, 1), y -> y.undo()
        };
        for (int i = 0; i < calls.length; i++) {
            fresh.refused("call " + i + " of a new object", calls[i], 1);
            none.refused("call " + i + " without a TEXT", calls[i], 1);
        }
    }

    /** "THE TAPE has 500 bytes"; "NONE, and none comes, if there would be more than 500 (trouble() stays)". */
    private static void tapeHas500Bytes() {
        Edges full = new Edges(check, EdgeTextTests::richOfFull);
        RunWorth x = Edges.rich();
        check.due("twenty come behind the twenty", x.feed(1, 2, 3, 4, 5), 40);
        check.due("trouble() stays by feed", x.trouble(), 4);
        check.due("where() stays by feed", x.where(), 9);
        for (int size = 60; size <= 500; size += 20) {
            check.due("feed to " + size, x.feed(1, 2, 3, 4, 5), size);
            check.due("size()", x.size(), size);
        }
        check.due("feed beyond 500", x.feed(1, 2, 3, 4, 5), -1);
        check.due("size() beyond 500", x.size(), 500);
        full.aside("feed beyond 500", y -> y.feed(0x20202020, 0x20202020, 0x20202020, 0x20202020, 0x20202020), -1);
        full.aside("feed beyond 500, letters", y -> y.feed(0x61616161, 0x61616161, 0x61616161, 0x61616161, 0x61616161), -1);
        full.aside("feed beyond 500, any", y -> y.feed(Integer.MIN_VALUE, Integer.MAX_VALUE, -1, 0, 1), -1);
    }

    private static RunWorth richOfFull() {
        RunWorth x = Edges.rich();
        Check.feed(x, " ".repeat(478) + "bo");
        return x;
    }

    /** A TEXT of 500 bytes, whose last WHOLE ends with the last byte. */
    private static String of500() {
        return batters(1, ";") + " ".repeat(500 - 22 - 7) + "tire 99";
    }

    /** "Twenty bytes come behind THE TAPE": the 500th byte is of the text; a feed refused brings none. */
    private static void tapeOf500IsTaken() {
        RunWorth x = new RunWorth();
        check.due("500 bytes", Check.feed(x, of500()), 500);
        check.due("no more", x.feed(0x39393939, 0, 0, 0, 0), -1);
        check.due("text(500)", x.text(500), 1);
        check.due("tire", x.rule(4), 99);
        check.due("size()", x.size(), 0);
        x = new RunWorth();
        Check.feed(x, of500());
        check.due("text(499): the last digit isn't of it", x.text(499), 1);
        check.due("tire", x.rule(4), 9);
        x = new RunWorth();
        Check.feed(x, of500().replace("99", "9\u0001"));
        check.refused("the 500th byte begins no TOKEN", x, x.text(500), 4);
        check.due("fault()", x.fault(), 1);
        check.due("where()", x.where(), 499);
        x = new RunWorth();
        Check.feed(x, batters(1, ";") + " ".repeat(478));
        check.refused("the end of 500 bytes", x, x.text(500), 4);
        check.due("where()", x.where(), 500);
    }

    /** "NONE: 2 (n)": 500 of 500 is taken, 501 is refused, and THE TAPE stays. */
    private static void tapeOf500IsRefused() {
        RunWorth x = new RunWorth();
        Check.feed(x, of500());
        check.refused("text(501)", x, x.text(501), 2);
        check.due("where()", x.where(), -1);
        check.due("THE TAPE stays", x.size(), 500);
        check.due("text(500)", x.text(500), 1);
    }

    /** "of each number the highest first": each byte of the five numbers has its place. */
    private static void eachByteOfFeed() {
        for (int i = 0; i < 20; i++) {
            int[] five = {0x20202020, 0x20202020, 0x20202020, 0x20202020, 0x20202020};
            five[i / 4] |= 0x80 << 8 * (3 - i % 4);
            RunWorth x = new RunWorth();
            check.due("feed", x.feed(five[0], five[1], five[2], five[3], five[4]), 20);
            check.refused("byte " + i + " is 160", x, x.text(20), 4);
            check.due("fault()", x.fault(), 1);
            check.due("where()", x.where(), i);
        }
        RunWorth x = Check.with("batter abcdef" + OUTS + ";batter a" + OUTS + ";batter f" + OUTS);
        x.feed(0x61626364, 0x65662020, 0x20202020, 0x20202020, 0x20202066);
        check.due("the highest first", Edges.named(x, 6), 0);
        check.due("the highest first", Edges.named(x, 1), 1);
        x.feed(0x20202020, 0x20202020, 0x20202020, 0x20202020, 0x20202020);
        check.due("behind THE TAPE", x.size(), 40);
        x.text(0);
        x.feed(0x20202020, 0x20202020, 0x20202020, 0x20202020, 0x20202066);
        check.due("the last one of twenty", Edges.named(x, 20), 2);
        check.due("without it", Edges.named(x, 19), Edges.THROWN);
    }

    /** "The first n bytes of THE TAPE .. are THE TEXT". */
    private static void textTakesFirstBytes() {
        String text = "batter a 18 0 0 0 0 02;tire 11";
        int[] fault = new int[31];
        int[] place = new int[31];
        int[] batters = new int[31];
        for (int n = 0; n <= 30; n++) {
            fault[n] = 1;
            place[n] = n < 6 ? 0 : n;
            batters[n] = -1;
        }
        place[0] = 0;
        // the sixth WHOLE is 0, so they are 18 together; then it is 02
        fault[21] = 2;
        place[21] = 20;
        batters[22] = 1;
        // behind ;: no LINE yet, a part of a WORD, the WORD, then WHOLES 1 and 11
        for (int n = 24; n < 27; n++) {
            place[n] = 23;
        }
        batters[29] = 1;
        batters[30] = 1;
        for (int n = 0; n <= 30; n++) {
            RunWorth x = new RunWorth();
            Check.feed(x, text);
            check.due("text(" + n + ")", x.text(n), batters[n]);
            check.due("fault() of " + n, x.fault(), batters[n] > 0 ? 0 : fault[n]);
            check.due("where() of " + n, x.where(), batters[n] > 0 ? -1 : place[n]);
            check.due("size() of " + n, x.size(), 0);
            if (n > 28) {
                check.due("tire of " + n, x.rule(4), n == 29 ? 1 : 11);
            }
        }
    }

    /** "int text(int n): .. NONE: 2 (n)": n below 0, n more than THE TAPE has; THE TAPE, fault() stay. */
    private static void textBeyondTheTape() {
        for (Edges edges : new Edges[] {none, rich}) {
            edges.refused("text(-1)", x -> x.text(-1), 2);
            edges.refused("text(21) of 20", x -> x.text(21), 2);
            edges.refused("text(500) of 20", x -> x.text(500), 2);
            edges.refused("text(501) of 20", x -> x.text(501), 2);
            edges.refused("text(MAX)", x -> x.text(Integer.MAX_VALUE), 2);
            edges.refused("text(MIN)", x -> x.text(Integer.MIN_VALUE), 2);
        }
        few.refused("text(1) of an empty tape", x -> x.text(1), 2);
        few.refused("text(-1) of an empty tape", x -> x.text(-1), 2);
        Edges fed = new Edges(check, () -> {
            RunWorth x = Edges.few();
            Check.feed(x, "batter ann 0 0 0 0 0 20");
            return x;
        });
        fed.taken("text(40) of 40", x -> x.text(40), 1);
        fed.refused("text(41) of 40", x -> x.text(41), 2);
    }

    /** n is 0: no bytes; the end of the text is a TOKEN with which no TEXT goes on. */
    private static void emptyText() {
        faulty("", 1, 0);
        RunWorth x = Edges.rich();
        check.refused("text(0)", x, x.text(0), 4);
        check.due("fault()", x.fault(), 1);
        check.due("where()", x.where(), 0);
        check.due("THE TAPE is empty", x.size(), 0);
        check.due("THE TEXT stays", x.about(0), 3);
    }

    /** "THE TAPE (it is empty then)", taken or refused by 4; not by 2. */
    private static void tapeIsEmptyThen() {
        RunWorth x = new RunWorth();
        Check.feed(x, batters(1, "") + " ".repeat(100));
        check.due("a part of it is taken", x.text(21), 1);
        check.due("size()", x.size(), 0);
        check.refused("nothing is left", x, x.text(1), 2);
        Check.feed(x, "?".repeat(100));
        check.refused("a part of it is refused", x, x.text(1), 4);
        check.due("size()", x.size(), 0);
        check.refused("nothing is left", x, x.text(1), 2);
        check.due("what is fed then comes first", Check.take(x, batters(2, "")), 2);
    }

    /** "all is anew: how many BATTERS"; "(a TEXT leaves none)". */
    private static void allIsAnew() {
        RunWorth x = Edges.rich();
        x.text(0);
        Check.take(x, batters(9, ""));
        int[] first = {9, 1, 0, 0, 0, 0, 0, 0, 0};
        for (int what = 0; what < 9; what++) {
            check.due("about(" + what + ") at first", x.about(what), first[what]);
        }
        for (int i = 0; i < 9; i++) {
            check.due("THE ORDER at first by numbers", x.place(i), i);
        }
        for (Edges edges : new Edges[] {none, few, rich}) {
            edges.anew(batters(1, ""), 1);
            edges.anew(Edges.THREE, 3);
            edges.anew(batters(9, ";single 2;double 3;fly 1;steal 0;tire 1"), 9);
        }
    }

    /** "blanks, 32, part TOKENS and mean nothing else". */
    private static void blanksPartTokens() {
        good("no blanks", "tire9;batter a 20 0 0 0 0 0;fly1", 1);
        good("blanks ahead, between, behind", "  tire   9  ;  batter   a   20  0  0  0  0  0  ", 1);
        good("a WORD, then a WHOLE", "batter a20 0 0 0 0 0", 1);
        faulty("tire 9 9;batter a" + OUTS, 1, 7);
        faulty("bat ter a" + OUTS, 1, 0);
        RunWorth x = Check.with("batter a 1 9 10 0 0 0");
        check.due("1 9 are two", x.batter(0, 0), 1);
        check.due("10 is one", x.batter(0, 2), 10);
        for (int c = 0; c < 256; c++) {
            if (c == ' ') {
                good("32", "batter" + (char) c + "a" + OUTS, 1);
            } else {
                boolean letter = c >= 'a' && c <= 'z';
                // a letter makes a WORD of eight; all else is told at its place
                faulty("batter" + (char) c + "a" + OUTS, 1, letter ? 0 : 6);
            }
        }
    }

    /** "WORDS of .. small letters": 97 and 122 are, 96 and 123 aren't; "a byte that begins no TOKEN". */
    private static void lettersOfWords() {
        for (int c = 0; c < 256; c++) {
            String text = "batter a" + (char) c + OUTS;
            if (c >= 'a' && c <= 'z' || c == ' ') {
                good("byte " + c, text, 1);
            } else if (c >= '0' && c <= '9') {
                faulty("batter a" + (char) c + "20 0 0 0 0 0", 1, 8);
            } else {
                faulty(text, 1, 8);
            }
        }
    }

    /** "WHOLES of 1 or 2 digits": 48 and 57 are, 47 and 58 aren't. */
    private static void digitsOfWholes() {
        for (int c = 0; c < 256; c++) {
            String text = batters(1, ";tire ") + (char) c;
            if (c >= '1' && c <= '9') {
                good("byte " + c, text, 1);
                check.due("tire " + (char) c, Check.with(text).rule(4), c - '0');
            } else if (c == '0') {
                faulty(text, 2, 27);
            } else {
                faulty(text, 1, c == ' ' ? 28 : 27);
            }
        }
    }

    /** "single ones of ;": 59 parts LINES, 58 and 60 don't; two of them are two. */
    private static void semicolons() {
        for (int c = 0; c < 256; c++) {
            String text = batters(1, "") + (char) c + "tire 9";
            if (c == ';') {
                good("byte " + c, text, 1);
            } else if (c >= '0' && c <= '9') {
                // the sixth WHOLE is 0 and that digit
                faulty(text, c == '0' ? 1 : 2, c == '0' ? 22 : 20);
            } else {
                faulty(text, 1, c == ' ' ? 22 : 21);
            }
        }
        faulty(batters(1, ";;tire 9"), 1, 22);
        faulty(";" + batters(1, ""), 1, 0);
    }

    /** "WORDS of 1 to 6 small letters"; "letters .. too many that stand together (at the first of these)". */
    private static void wordsOfOneToSix() {
        String letters = "qwertyuiopas";
        for (int n = 1; n <= 6; n++) {
            good(n + " letters", "batter " + letters.substring(0, n) + OUTS, 1);
        }
        for (int n = 7; n <= 12; n++) {
            faulty("batter " + letters.substring(0, n) + OUTS, 1, 7);
        }
        faulty("batter " + "z".repeat(400), 1, 7);
        faulty("batter " + "batter".repeat(60), 1, 7);
        faulty("batters a" + OUTS, 1, 0);
        faulty("singles 1", 1, 0);
        faulty("abatter a" + OUTS, 1, 0);
        faulty("z".repeat(500), 1, 0);
        faulty("batter a 20 0 0 0 0 0abcdefg", 1, 21);
        // WORDS that differ by one letter, by how many letters
        RunWorth x = Check.with("batter z" + OUTS + ";batter zz" + OUTS + ";batter zzzzzz" + OUTS + ";batter zzzzzy" + OUTS
            + ";batter aa" + OUTS + ";batter a" + OUTS + ";batter aaaaaa" + OUTS + ";batter ba" + OUTS + ";batter zzzzz" + OUTS);
        String[] names = {"z", "zz", "zzzzzz", "zzzzzy", "aa", "a", "aaaaaa", "ba", "zzzzz"};
        for (int b = 0; b < names.length; b++) {
            Check.feed(x, names[b]);
            check.due("named " + names[b], Edges.named(x, 20), b);
            x.text(0);
        }
        for (String other : new String[] {"aaa", "aaaaa", "zzzz", "ab", "b", "zzzzza", "zzzzzx", "zzzzzzz", "aaaaaaa"}) {
            Check.feed(x, other);
            check.due("named " + other, Edges.named(x, 20), Edges.THROWN);
            x.text(0);
        }
    }

    /** "WHOLES of 1 or 2 digits"; "digits too many that stand together (at the first of these)". */
    private static void wholesOfOneOrTwo() {
        good("1 digit", "tire 9;" + batters(1, ""), 1);
        good("2 digits", "tire 09;" + batters(1, ""), 1);
        faulty("tire 009;" + batters(1, ""), 1, 5);
        faulty("tire 100;" + batters(1, ""), 1, 5);
        faulty("tire 000;" + batters(1, ""), 1, 5);
        faulty("tire " + "4294967297".repeat(20), 1, 5);
        good("00 is 0", "batter a 00 00 20 00 00 00", 1);
        faulty("batter a 00 000 20 00 00 00", 1, 12);
        faulty("000", 1, 0);
    }

    /** "WHOLES 0 .. 20, his CHANCES in twentieths": of each EVENT 20 is taken, 21 is told at its place. */
    private static void chancesFrom0To20() {
        for (int e = 0; e < 6; e++) {
            good("20 of EVENT " + e, alone(e, "20"), 1);
            RunWorth x = Check.with(alone(e, "20"));
            for (int i = 0; i < 6; i++) {
                check.due("batter(0, " + i + ")", x.batter(0, i), i == e ? 20 : 0);
            }
            faulty(alone(e, "21"), 2, 9 + 2 * e);
            faulty(alone(e, "99"), 2, 9 + 2 * e);
        }
        // told at the first that is out of bounds, not at the sixth
        faulty("batter a 20 0 0 21 99 0", 2, 16);
    }

    private static String alone(int e, String chance) {
        StringBuilder s = new StringBuilder("batter a");
        for (int i = 0; i < 6; i++) {
            s.append(' ').append(i == e ? chance : "0");
        }
        return s.toString();
    }

    /** "20 together"; "the sixth one of a batter, if they aren't 20 together". */
    private static void twentyTogether() {
        good("20 together", "batter a 1 2 3 4 5 5", 1);
        faulty("batter a 1 2 3 4 5 4", 2, 19);
        faulty("batter a 1 2 3 4 5 6", 2, 19);
        faulty("batter a 0 0 0 0 0 0", 2, 19);
        faulty("batter a 20 20 20 20 20 20", 2, 24);
        faulty("batter a 20 1 0 0 0 0", 2, 20);
        good("the last makes them 20", "batter a 0 0 0 0 0 20", 1);
        faulty("batter a 0 0 0 0 0 19", 2, 19);
        // it isn't told ahead of the sixth
        faulty("batter a 20 1 0 0 0", 1, 19);
        faulty("batter a 20 1 0 0 0;", 1, 19);
        faulty(batters(8, ";") + "batter i 20 0 0 0 0 1", 2, 8 * 22 + 20);
    }

    /** "up to 9, numbered from 0"; "4 a tenth batter, at that WORD". */
    private static void upToNineBatters() {
        for (int n = 1; n <= 9; n++) {
            good("batters", batters(n, ""), n);
        }
        RunWorth x = Check.with(batters(9, ""));
        check.due("the last has the number 8", x.batter(8, 0), 20);
        check.refused("there is no 9", x, x.batter(9, 0), 1);
        faulty(batters(10, ""), 4, 198);
        faulty(batters(9, ";batter"), 4, 198);
        faulty(batters(9, ";batter a" + OUTS), 4, 198);
        faulty(batters(9, ";tire 9;batter ?"), 4, 205);
        good("rules behind nine", batters(9, ";tire 9"), 9);
        faulty(batters(15, ""), 4, 198);
    }

    /** "single N (1, 2 ..), double N (2, 3 ..), fly N (0, 1 ..), steal N (0 .. 20 ..), tire N (1 .. 99 ..)". */
    private static void boundsOfRules() {
        for (int r = 0; r < 5; r++) {
            for (int v = 0; v <= 99; v++) {
                String text = KEYS[r] + " " + v + ";" + batters(1, "");
                if (v >= LEAST[r] && v <= MOST[r]) {
                    good("within its bounds", text, 1);
                    check.due("rule(" + r + ")", Check.with(text).rule(r), v);
                } else if (v < LEAST[r] || v == MOST[r] + 1 || v == 99) {
                    faulty(text, 2, KEYS[r].length() + 1);
                    faulty(batters(1, ";") + KEYS[r] + v, 2, 22 + KEYS[r].length());
                }
            }
        }
        faulty("tire 100;" + batters(1, ""), 1, 5);
    }

    /** "1 without", "2 without", "0 without", "14 without", "30 without". */
    private static void rulesWithout() {
        for (int without = 0; without < 5; without++) {
            StringBuilder s = new StringBuilder(batters(1, ""));
            for (int r = 0; r < 5; r++) {
                s.append(r == without ? "" : ";" + KEYS[r] + MOST[r]);
            }
            RunWorth x = Check.with("single 2;double 3;fly 1;steal 9;tire 9;" + batters(1, ""));
            Check.take(x, s.toString());
            for (int r = 0; r < 5; r++) {
                check.due("rule(" + r + ") without " + KEYS[without], x.rule(r), r == without ? WITHOUT[r] : MOST[r]);
            }
        }
    }

    /** "once each"; "single, double, fly, steal, tire a second time, at that WORD". */
    private static void rulesOnceEach() {
        for (int r = 0; r < 5; r++) {
            String line = KEYS[r] + " " + MOST[r] + ";";
            good("once", line + batters(1, ""), 1);
            faulty(line + line + batters(1, ""), 3, line.length());
            faulty(line + KEYS[r], 3, line.length());
            faulty(line + batters(9, ";") + KEYS[r] + " 99", 3, line.length() + 198);
            for (int other = 0; other < 5; other++) {
                if (other != r) {
                    good("another one", line + KEYS[other] + LEAST[other] + ";" + batters(1, ""), 1);
                }
            }
        }
    }

    /** "A NAME is a WORD but batter, single, double, fly, steal, tire". */
    private static void nameButKeys() {
        for (String key : new String[] {"batter", "single", "double", "fly", "steal", "tire"}) {
            faulty("batter " + key + OUTS, 1, 7);
            faulty(batters(1, ";batter ") + key + OUTS, 1, 29);
            good("a part of it", "batter " + key.substring(1) + OUTS, 1);
            good("a part of it", "batter " + key.substring(0, key.length() - 1) + OUTS, 1);
            if (key.length() < 6) {
                good("more than it", "batter " + key + "s" + OUTS, 1);
                good("more than it", "batter x" + key + OUTS, 1);
            }
        }
    }

    /** "no two alike"; "3 a NAME told again". */
    private static void noTwoAlike() {
        good("one letter differs", "batter ab" + OUTS + ";batter ac" + OUTS + ";batter a" + OUTS + ";batter abc" + OUTS, 4);
        faulty("batter ab" + OUTS + ";batter ab" + OUTS, 3, 30);
        faulty(batters(8, ";batter h") + OUTS, 3, 7 * 22 + 29);
        faulty(batters(8, ";batter a") + OUTS, 3, 7 * 22 + 29);
        faulty(batters(8, ";batter a"), 3, 7 * 22 + 29);
        good("a name of the last text", batters(1, ""), 1);
        few.anew("batter ann" + OUTS, 1);
    }

    /** Text so far, the TOKENS that go on (letters as in kinds below), and the WHOLE that is tried. */
    private static final String[][] GRAMMAR = {
        {"", "bsdftr", "0"},
        {"batter", "n", "0"},
        {"batter a", "w", "20"},
        {"batter a 20", "w", "0"},
        {"batter a 20 0", "w", "0"},
        {"batter a 20 0 0", "w", "0"},
        {"batter a 20 0 0 0", "w", "0"},
        {"batter a 20 0 0 0 0", "w", "0"},
        {"batter a 20 0 0 0 0 0", ";$", "0"},
        {"batter a 20 0 0 0 0 0;", "bsdftr", "0"},
        {"single", "w", "1"},
        {"double", "w", "2"},
        {"fly", "w", "0"},
        {"steal", "w", "0"},
        {"tire", "w", "1"},
        {"batter a 20 0 0 0 0 0;tire 1", ";$", "0"},
        {"batter a 20 0 0 0 0 0;tire 1;", "bsdft", "0"},
        {"tire 1;batter a 20 0 0 0 0 0;", "bsdft", "0"},
    };

    /** "1 FORM: .. a TOKEN with which no TEXT goes on": every TOKEN at every place of a LINE. */
    private static void tokensThatGoOn() {
        String kinds = "bsdftrnw;$?LD";
        for (String[] g : GRAMMAR) {
            String[] tokens = {"batter", "single", "double", "fly", "steal", "tire", "zed", g[2], ";", "", "?", "abcdefg", "000"};
            for (int i = 0; i < tokens.length; i++) {
                String text = g[0] + " " + tokens[i];
                int place = g[0].length() + 1;
                char kind = kinds.charAt(i);
                if (g[1].indexOf(kind) < 0) {
                    boolean again = kind == 'r' && g[0].contains("tire 1") && g[0].endsWith(";");
                    faulty(text, again ? 3 : 1, place);
                } else {
                    RunWorth x = new RunWorth();
                    int batters = Check.take(x, text);
                    check.due("goes on: " + text, batters > 0 || x.where() > place ? 1 : 0, 1);
                }
            }
        }
    }

    /** "(the end of the text: how many bytes it has)", trailing blanks, too. */
    private static void endOfTheText() {
        String[] cut = {"", "batter", "batter a", "batter a 20", "batter a 20 0 0 0 0", "batter a 20 0 0 0 0 0;", "single", "tire 9;"};
        for (String text : cut) {
            for (int blanks = 0; blanks < 3; blanks++) {
                faulty(text + " ".repeat(blanks), 1, text.length() + blanks);
            }
        }
        faulty(" ".repeat(500), 1, 500);
        faulty(" ".repeat(499), 1, 499);
    }

    /** "5 at the end: there is no batter." */
    private static void thereIsNoBatter() {
        faulty("fly 1", 5, 5);
        faulty("fly 1  ", 5, 7);
        faulty("fly 1;single 2;double 2;steal 2;tire 2", 5, 38);
        faulty("fly 1" + " ".repeat(495), 5, 500);
        good("there is one", "fly 1;single 2;double 2;steal 2;tire 2;" + batters(1, ""), 1);
    }

    /** "Told is the first TOKEN, from the left, at which one is found". */
    private static void firstTokenFromTheLeft() {
        faulty("tire 0;pitch", 2, 5);
        faulty("pitch;tire 0", 1, 0);
        faulty("fly 1;fly ?", 3, 6);
        faulty("fly 2;fly 1", 2, 4);
        faulty(batters(1, ";batter a") + " 99", 3, 29);
        faulty("batter a 99;batter a", 2, 9);
        faulty(batters(9, ";batter ?"), 4, 198);
        faulty(batters(9, ";fly 9;batter j"), 2, 202);
        faulty(batters(9, ";fly 1;fly 1;batter j"), 3, 204);
        faulty("fly 1;", 1, 6);
        faulty("fly 1;fly 0", 3, 6);
        faulty("fly 3", 2, 4);
    }

    /** "of one TOKEN the least number". */
    private static void leastNumberOfOneToken() {
        // the end: no TEXT goes on with it, and there is no batter
        faulty("", 1, 0);
        faulty("fly", 1, 3);
        faulty("fly 1;", 1, 6);
        // a WHOLE out of its bounds where no WHOLE goes on
        faulty("99", 1, 0);
        faulty("batter 99", 1, 7);
        faulty(batters(1, " 99"), 1, 22);
        faulty("fly 1 2", 1, 6);
        // single a second time, a NAME told again, a tenth batter where no WORD goes on
        faulty("single 1 single 1", 1, 9);
        faulty("single single", 1, 7);
        faulty("single 1;double single", 1, 16);
        faulty("single 1;batter single" + OUTS, 1, 16);
        faulty(batters(1, " a"), 1, 22);
        faulty(batters(9, " batter j") + OUTS, 1, 198);
        faulty(batters(9, ";fly batter"), 1, 202);
    }

    /** "The FAULT of the latest text() not refused by 2; 0 without one, ahead of any." */
    private static void faultOfLatest() {
        RunWorth x = new RunWorth();
        check.due("ahead of any", x.fault(), 0);
        x.text(1);
        check.due("ahead of any but one refused by 2", x.fault(), 0);
        Check.take(x, "fly 1");
        check.due("5", x.fault(), 5);
        x.text(1);
        check.due("refused by 2: it stays", x.fault(), 5);
        check.due("trouble()", x.trouble(), 2);
        Check.take(x, "fly 2");
        check.due("2", x.fault(), 2);
        x.about(0);
        x.undo();
        check.due("other calls leave it", x.fault(), 2);
        Check.take(x, batters(1, ""));
        check.due("without one", x.fault(), 0);
        Check.take(x, "fly 0;fly 0");
        check.due("3", x.fault(), 3);
        check.due("3 is told of a TEXT that stays", x.about(0), 1);
        Check.take(x, batters(10, ""));
        check.due("4", x.fault(), 4);
        x.text(-1);
        check.due("refused by 2: it stays", x.fault(), 4);
    }

    /** "Its place, if the latest call that may be refused was by 4; NONE else." */
    private static void whereOfLatest() {
        rich.aside("where()", x -> x.where(), 9);
        rich.aside("fault()", x -> x.fault(), 2);
        few.aside("where()", x -> x.where(), -1);
        few.aside("fault()", x -> x.fault(), 0);
        Edges.Call[] calls = {x -> x.about(0), x -> x.about(9), x -> x.text(-1), x -> x.undo(), x -> x.relieve(), x -> x.event(9),
            x -> x.chance(0, 0, 1000), x -> x.swap(0, 0)};
        for (Edges.Call call : calls) {
            RunWorth x = Edges.rich();
            check.due("where() ahead", x.where(), 9);
            call.of(x);
            check.due("where() behind another call", x.where(), -1);
            check.due("fault() stays", x.fault(), 2);
        }
        RunWorth x = new RunWorth();
        Check.take(x, "");
        check.due("a place may be 0", x.where(), 0);
    }

    /** "The BATTER whose NAME lies in the first n bytes of THE TAPE (which stays ..)": "n can't be, too". */
    private static void namedWithinTape() {
        Edges cy = new Edges(check, () -> {
            RunWorth x = Edges.few();
            x.chance(0, 0, 1000);
            Check.feed(x, "ann cy");
            return x;
        });
        cy.aside("named(0)", x -> Edges.named(x, 0), Edges.THROWN);
        cy.aside("named(-1)", x -> Edges.named(x, -1), Edges.THROWN);
        cy.aside("named(2)", x -> Edges.named(x, 2), Edges.THROWN);
        cy.aside("named(3)", x -> Edges.named(x, 3), 0);
        cy.aside("named(4)", x -> Edges.named(x, 4), 0);
        cy.aside("named(5)", x -> Edges.named(x, 5), Edges.THROWN);
        cy.aside("named(6)", x -> Edges.named(x, 6), Edges.THROWN);
        Edges last = new Edges(check, () -> {
            RunWorth x = Edges.few();
            Check.feed(x, " ".repeat(18) + "cy");
            return x;
        });
        last.aside("named(20) of 20", x -> Edges.named(x, 20), 2);
        last.aside("named(19) of 20", x -> Edges.named(x, 19), Edges.THROWN);
        last.aside("named(21) of 20", x -> Edges.named(x, 21), Edges.THROWN);
        last.aside("named(MAX)", x -> Edges.named(x, Integer.MAX_VALUE), Edges.THROWN);
        last.aside("named(MIN)", x -> Edges.named(x, Integer.MIN_VALUE), Edges.THROWN);
        few.aside("named(0) of an empty tape", x -> Edges.named(x, 0), Edges.THROWN);
        few.aside("named(1) of an empty tape", x -> Edges.named(x, 1), Edges.THROWN);
    }

    private static int namedBy(String tape) {
        RunWorth x = Check.with("batter ann" + OUTS + ";batter abcdef" + OUTS);
        Check.feed(x, tape);
        return Edges.named(x, tape.length());
    }

    /** "blanks ahead of it, behind it aside". */
    private static void namedBlanksAside() {
        check.due("blanks ahead", namedBy("   ann"), 0);
        check.due("blanks behind", namedBy("ann   "), 0);
        check.due("both", namedBy("  abcdef  "), 1);
        check.due("six letters", namedBy("abcdef"), 1);
        check.due("blanks alone", namedBy("    "), Edges.THROWN);
        check.due("a blank within", namedBy("an n"), Edges.THROWN);
        for (int c = 0; c < 256; c++) {
            check.due("byte " + c + " behind", namedBy("ann" + (char) c), c == ' ' ? 0 : Edges.THROWN);
            check.due("byte " + c + " ahead", namedBy((char) c + "ann"), c == ' ' ? 0 : Edges.THROWN);
        }
    }

    /** "NoSuchElementException if there is none such". */
    private static void namedNoneSuch() {
        none.aside("without a TEXT", x -> Edges.named(x, 2), Edges.THROWN);
        rich.aside("cy", x -> Edges.named(x, 2), 2);
        rich.aside("cy and more", x -> Edges.named(x, 20), Edges.THROWN);
        for (String other : new String[] {"", "bob", "an", "anna", "Ann", "ann ann", "ann;", "abcdefg", "abcde", "batter", "fly", "7"}) {
            check.due("named " + other, namedBy(other), Edges.THROWN);
        }
        RunWorth x = Check.with(batters(9, ""));
        Check.take(x, batters(2, ""));
        Check.feed(x, "b");
        check.due("the second of two", Edges.named(x, 1), 1);
        x.text(0);
        Check.feed(x, "c");
        check.due("the third of the text ahead", Edges.named(x, 1), Edges.THROWN);
        x.text(0);
        Check.take(x, "batter q" + OUTS + ";batter r 9");
        Check.feed(x, "q");
        check.due("a NAME of a text that was refused", Edges.named(x, 1), Edges.THROWN);
        x.text(0);
        Check.feed(x, "a");
        check.due("that of THE TEXT", Edges.named(x, 1), 0);
    }

    /** A NAME in the last bytes of 500. */
    private static void namedAtTheEndOf500() {
        RunWorth x = Check.with(batters(9, ""));
        Check.feed(x, " ".repeat(499) + "i");
        check.due("named(499)", Edges.named(x, 499), Edges.THROWN);
        check.due("named(500)", Edges.named(x, 500), 8);
        check.due("named(501)", Edges.named(x, 501), Edges.THROWN);
        check.due("size()", x.size(), 500);
    }

    /** "Bytes of THE TAPE." */
    private static void sizeOfTape() {
        few.aside("size() of an empty tape", x -> x.size(), 0);
        rich.aside("size()", x -> x.size(), 20);
        new Edges(check, EdgeTextTests::richOfFull).aside("size() of a full tape", x -> x.size(), 500);
    }

    /** "TROUBLE of the latest call that may be refused"; "What is refused changes nothing but trouble(), where()". */
    private static void troubleOfLatest() {
        few.aside("trouble()", x -> x.trouble(), 0);
        rich.aside("trouble()", x -> x.trouble(), 4);
        RunWorth x = Edges.few();
        check.refused("1", x, x.event(9), 1);
        check.refused("2", x, x.lay(4), 2);
        check.refused("5", x, x.swap(1, 1), 5);
        check.refused("4", x, Check.take(x, "?"), 4);
        x.feed(0, 0, 0, 0, 0);
        x.size();
        x.fault();
        x.where();
        Edges.named(x, 1);
        check.due("calls of which no number is told leave it", x.trouble(), 4);
        check.due("the next one that may be refused", x.relieve(), 3);
        check.due("it wasn't", x.trouble(), 0);
    }
}
