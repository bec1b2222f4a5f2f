/** The boundary cases of BOARD and JOB texts (parts 1 and 4, promises 8, 9 and 21), a test for each sentence. */
public final class EdgeTextTest extends Desk {
    private static final String[] GIVERS = {"c", "a", "x", "u", "t", "z"};
    private static final int[] GIVERS_TOP = {20, 20, 20, 4, 3, 4};
    private static final String[] TAKERS = {"plus", "minus", "clear", "p", "s", "ka", "kb", "b", "q"};
    private static final int[] TAKERS_TOP = {4, 4, 4, 12, 4, 4, 4, 3, 20};
    private static final String[] DOTTED = {"o", "i", "rc", "rn", "rt"};
    private static final int[] DOTTED_TOP = {6, 6, 3, 3, 3};
    private static final String SIX_FIELDS = "field a 1 1;field b 1 1;field c 1 1;field d 1 1;field e 1 1;field f 1 1;";

    public static void main(String[] args) {
        everyByteBehindAWire();
        everyByteBehindAWord();
        everyByteAheadOfANumber();
        everyByteBehindANumber();
        wordsOfFive();
        numbersOfTwo();
        bytesBeyondTheEnd();
        tokensThatCannotCome();
        numbersBehindGivers();
        numbersBehindTakers();
        numbersBehindDots();
        hubsWithoutNumbers();
        oneWireForWhatTakes();
        eightWiresForOthers();
        eightWiresByEitherEnd();
        noWireToItself();
        firstFaultAlongTheText();
        leastFaultOfAToken();
        sixtyWires();
        aSixtyFirstWireAheadOfOthers();
        sevenHundredBytes();
        tokensAcrossSevenHundred();
        faultsAheadOfSevenHundred();
        boardStaysBehindAFault();
        faultAheadOfAny();
        everyByteInAJob();
        jobNames();
        jobNamesTold();
        jobFieldColumns();
        jobBreaks();
        jobSums();
        jobOver();
        jobCounts();
        sixFields();
        eightWants();
        jobOfThreeHundredBytes();
        tokensAcrossThreeHundred();
        firstFaultOfAJob();
        jobStaysBehindAFault();
        faultOfTheLatest();
        tell();
    }

    private static boolean isLetter(int b) {
        return b >= 'a' && b <= 'z';
    }

    private static boolean isDigit(int b) {
        return b >= '0' && b <= '9';
    }

    private static boolean isBlank(int b) {
        return b == 32 || b == 10;
    }

    /** A BOARD text with one byte of any value in it: its WIRES, or a FAULT's kind and place. */
    private static void dueByte(String ahead, int b, String behind, int wires, int kind, int place) {
        String s = ahead + (char) b + behind;
        due("board with a byte " + b, board(s), kind == 0 ? wires : -1 - place);
        due("fault of a byte " + b, hall.fault(), kind);
    }

    private static void everyByteBehindAWire() {
        for (int b = 0; b < 256; b++) {
            if (b % 64 == 0) {
                fresh("TOKENS, with blanks (32, 10) between them; all else is no TOKEN");
            }
            boolean begins = b != 0 && "caxeutozipsbqm".indexOf(b) >= 0;
            dueByte("e-p1;", b, "", 1, isBlank(b) ? 0 : 1, begins ? 6 : 5);
        }
    }

    private static void everyByteBehindAWord() {
        for (int b = 0; b < 256; b++) {
            if (b % 64 == 0) {
                fresh("A WORD goes on as long as small letters do");
            }
            dueByte("e", b, "-p1;", 1, isBlank(b) ? 0 : 1, isLetter(b) ? 0 : b == '-' ? 2 : 1);
        }
    }

    private static void everyByteAheadOfANumber() {
        for (int b = 0; b < 256; b++) {
            if (b % 64 == 0) {
                fresh("A NUMBER as long as digits do: c12 is c and 12");
            }
            boolean isRelay = b != 0 && "cnt".indexOf(b) >= 0;
            int kind = isBlank(b) || b == '0' || b == '1' ? 0 : isDigit(b) ? 2 : 1;
            // A letter makes another WORD of it, and rc, rn, rt want a dot behind their NUMBER.
            dueByte("r", b, "1-e;", 1, 1, isRelay ? 3 : 0);
            dueByte("c", b, "1-e;", 1, kind, isLetter(b) ? 0 : 1);
        }
    }

    private static void everyByteBehindANumber() {
        for (int b = 0; b < 256; b++) {
            if (b % 64 == 0) {
                fresh("NUMBERS: digits, 1 or 2");
            }
            dueByte("c1", b, "-e;", 1, isBlank(b) || isDigit(b) ? 0 : 1, b == '-' ? 3 : 2);
        }
    }

    private static void wordsOfFive() {
        fresh("WORDS: small letters, 1 to 5; what is longer is no TOKEN");
        dueBoard("e-minus1;", 1);
        dueBoard("e-clear1;", 1);
        dueBoard("e-p1;", 1);
        fault("e-minuss1;", 1, 2);
        fault("e-minusminus1;", 1, 2);
        fault("e-minu1;", 1, 2);
        fault("e-halts;", 1, 2);
        fault("e-hal;", 1, 2);
        fault(times("e", 5), 1, 0);
        fault(times("e", 6), 1, 0);
        fault(times("e", 700), 1, 0);
        fault("  " + times("m", 738), 1, 2);
        // Seven letters more than a WORD's five must not come round to a WORD again.
        fault("e-" + times("a", 32) + "p1;", 1, 2);
        fault("e-" + times("a", 7) + "p1;", 1, 2);
    }

    private static void numbersOfTwo() {
        fresh("NUMBERS: digits, 1 or 2; what is longer is no TOKEN");
        dueBoard("c1-e;", 1);
        dueBoard("c01-e;", 1);
        dueBoard("c20-e;", 1);
        dueBoard("o04.06-e;", 1);
        fault("c001-e;", 1, 1);
        fault("c100-e;", 1, 1);
        fault("c020-e;", 1, 1);
        fault("c" + times("0", 300) + "1-e;", 1, 1);
        fault("c4294967297-e;", 1, 1);
        fault("c" + times("9", 700) + "-e;", 1, 1);
        fault("o1.001-e;", 1, 3);
        fault("c0 1-e;", 2, 1);
        fault("c1 0-e;", 1, 3);
    }

    private static void bytesBeyondTheEnd() {
        fresh("end(): The tape has its first n bytes alone: what was behind them is no part of a TOKEN");
        dueCut("c99-e;", 2, 1, 2);
        dueCut("c100-e;", 2, 1, 2);
        dueCut("e-p1;e-p2;", 5, 0, 0);
        dueCut("e-p1;foo", 5, 0, 0);
        dueCut("e-mount;", 3, 1, 3);
        dueCut("e-minus1;", 5, 1, 2);
        dueCut("e-p1;", 4, 1, 4);
        fault("c" + times("1", 739), 1, 1);
        fault("c1-p" + times("1", 736), 1, 4);
        text("count 1 1;count");
        hall.end(10);
        due("job", hall.job(), 1);
        text("count 1 19;");
        hall.end(9);
        due("job", hall.job(), -10);
    }

    private static void dueCut(String s, int n, int kind, int place) {
        text(s);
        hall.end(n);
        due(s + " cut behind " + n, hall.board(), kind == 0 ? 1 : -1 - place);
        due("fault of " + s, hall.fault(), kind);
    }

    private static void tokensThatCannotCome() {
        fresh("1 no TOKEN, or one that can't come (at it; the end: how many bytes there are)");
        dueBoard("", 0);
        dueBoard(" ", 0);
        dueBoard("e-p1; \n", 1);
        String whole = "o1.2-rt3.1;";
        for (int n = 1; n < whole.length(); n++) {
            // Only "r" is no WORD of a HUB, so that it is told itself.
            boolean isHalfWord = n == 6;
            fault(whole.substring(0, n), 1, isHalfWord ? 5 : n);
            fault(whole.substring(0, n) + " \n", 1, isHalfWord ? 5 : n + 2);
        }
        dueBoard(whole, 1);
        String[] tokens = {"e", "7", "-", ";", "."};
        // What may come behind each beginning; each other TOKEN is told where it stands.
        dueOnlyTokens("", tokens, 0);
        dueOnlyTokens("e ", tokens, 2);
        dueOnlyTokens("e-", tokens, 0);
        dueOnlyTokens("c ", tokens, 1);
        dueOnlyTokens("c1 ", tokens, 2);
        dueOnlyTokens("o1 ", tokens, 4);
        dueOnlyTokens("o1.", tokens, 1);
        dueOnlyTokens("o1.1 ", tokens, 2);
        dueOnlyTokens("c1-m ", tokens, 3);
    }

    private static void dueOnlyTokens(String ahead, String[] tokens, int may) {
        for (int t = 0; t < tokens.length; t++) {
            if (t != may) {
                fault(ahead + tokens[t] + " e-p1;", 1, ahead.length());
            }
        }
    }

    private static void dueRange(String ahead, int top, String behind) {
        int place = ahead.length() + 2;
        dueBoard("e-" + ahead + "1" + behind + ";", 1);
        dueBoard("e-" + ahead + top + behind + ";", 1);
        fault("e-" + ahead + "0" + behind + ";", 2, place);
        fault("e-" + ahead + "00" + behind + ";", 2, place);
        fault("e-" + ahead + (top + 1) + behind + ";", 2, place);
        fault("e-" + ahead + "99" + behind + ";", 2, place);
        dueBoard(ahead + "1" + behind + "-e;", 1);
        dueBoard(ahead + top + behind + "-e;", 1);
        fault(ahead + "0" + behind + "-e;", 2, place - 2);
        fault(ahead + (top + 1) + behind + "-e;", 2, place - 2);
    }

    private static void numbersBehindGivers() {
        for (int i = 0; i < GIVERS.length; i++) {
            fresh("HUBS that give: c n, a n, x n (a COLUMN); u n (1 to 4); t n (1 to 3); z w");
            dueRange(GIVERS[i], GIVERS_TOP[i], "");
            dueRange(GIVERS[i] + " ", GIVERS_TOP[i], " ");
        }
    }

    private static void numbersBehindTakers() {
        for (int i = 0; i < TAKERS.length; i++) {
            fresh("HUBS that take: plus w; minus w; clear w; p n (1 to 12); s r; ka n, kb n (1 to 4); b n (1 to 3); q n");
            dueRange(TAKERS[i], TAKERS_TOP[i], "");
        }
    }

    private static void numbersBehindDots() {
        for (int i = 0; i < DOTTED.length; i++) {
            fresh("o w . d, i w . d (a WHEEL 1 to 4, its digit 1 to 6); rc r . k, rn r . k, rt r . k (k 1 to 3)");
            dueRange(DOTTED[i], 4, ".1");
            dueRange(DOTTED[i], 4, "." + DOTTED_TOP[i]);
            dueRange(DOTTED[i] + "1.", DOTTED_TOP[i], "");
            dueRange(DOTTED[i] + "4.", DOTTED_TOP[i], "");
        }
    }

    private static void hubsWithoutNumbers() {
        fresh("e; m; halt");
        dueBoard("e-m;", 1);
        dueBoard("halt-e;", 1);
        fault("e1-m;", 1, 1);
        fault("e-m1;", 1, 3);
        fault("e-halt1;", 1, 6);
        fault("e.1-m;", 1, 1);
    }

    private static void dueOneWire(String hub) {
        String once = "e-" + hub + ";";
        dueBoard(once, 1);
        fault(once + "c1-" + hub + ";", 3, once.length() + 3);
        fault(once + hub + "-c1;", 3, once.length());
        fault(once + "e-" + hub + ";", 3, once.length() + 2);
        String turned = hub + "-e;";
        fault(turned + "c1-" + hub + ";", 3, turned.length() + 3);
    }

    private static void oneWireForWhatTakes() {
        String sentence = "A HUB that takes has one WIRE at most";
        for (int i = 0; i < TAKERS.length; i++) {
            fresh(sentence);
            dueOneWire(TAKERS[i] + "1");
            dueOneWire(TAKERS[i] + TAKERS_TOP[i]);
            dueBoard("e-" + TAKERS[i] + "1;e-" + TAKERS[i] + "2;", 2);
        }
        fresh(sentence);
        dueOneWire("i1.1");
        dueOneWire("i4.6");
        dueOneWire("m");
        dueOneWire("halt");
        dueBoard("e-i1.1;e-i1.2;e-i2.1;e-m;e-halt;", 5);
        fault("p1-p2;p2-p3;", 3, 6);
    }

    private static void dueEightWires(String hub) {
        String[] others = {"rc3.2", "rn3.2"};
        String eight = times(hub + "-" + others[0] + ";", 8);
        dueBoard(eight, 8);
        fault(eight + hub + "-" + others[1] + ";", 3, eight.length());
        fault(eight + others[1] + "-" + hub + ";", 3, eight.length() + 6);
        fault(eight + "c7-" + others[0] + ";", 3, eight.length() + 3);
    }

    private static void eightWiresForOthers() {
        String sentence = "A HUB that takes has one WIRE at most, each other eight at most";
        for (int i = 0; i < GIVERS.length; i++) {
            fresh(sentence);
            dueEightWires(GIVERS[i] + "1");
            dueEightWires(GIVERS[i] + GIVERS_TOP[i]);
        }
        fresh(sentence);
        dueEightWires("e");
        dueEightWires("o1.1");
        dueEightWires("o4.6");
        fresh(sentence);
        dueEightWires("rc1.1");
        dueEightWires("rc4.3");
        dueEightWires("rn1.1");
        fresh(sentence);
        dueEightWires("rn4.3");
        dueEightWires("rt1.1");
        dueEightWires("rt4.3");
    }

    private static void eightWiresByEitherEnd() {
        fresh("each other eight at most: first and second ends together");
        String seven = "e-p1;p2-e;e-p3;p4-e;e-p5;p6-e;e-p7;";
        dueBoard(seven + "p8-e;", 8);
        dueBoard(seven + "e-p8;", 8);
        fault(seven + "p8-e;e-p9;", 3, 40);
        fault(seven + "e-p8;p9-e;", 3, 43);
        // The HUB at the other end has none too many, and is ahead.
        fault(seven + "p8-e;p7-e;", 3, 40);
    }

    private static void noWireToItself() {
        fresh("3 a WIRE from a HUB to itself (at its second WORD)");
        fault("e-e;", 3, 2);
        fault("e - e ;", 3, 4);
        fault("c1-c01;", 3, 3);
        fault("o1.2-o1.2;", 3, 5);
        fault("rc4.3-rc4.3;", 3, 6);
        fault("m-m;", 3, 2);
        fault("p12-p12;", 3, 4);
        dueBoard("c1-c2;", 1);
        dueBoard("c1-a1;", 1);
        dueBoard("o1.2-o2.1;", 1);
        dueBoard("rc4.3-rn4.3;", 1);
        // With eight WIRES already, it is the first WORD.
        String seven = times("e-rc1.1;", 7);
        fault(seven + "e-e;", 3, 58);
        fault(seven + "e-rc1.1;e-e;", 3, 64);
    }

    private static void firstFaultAlongTheText() {
        fresh("FAULTS, the first along the text");
        fault("c21-foo;", 2, 1);
        fault("foo-c21;", 1, 0);
        fault("o5.7-e;", 2, 1);
        fault("o4.7-c99;", 2, 3);
        fault("e-p1;c1-p1;c99-e;", 3, 8);
        fault("e-p1;c99-p1;", 2, 6);
        fault("e-p1;p1-c99;", 3, 5);
        fault("e-p1;c1-p1", 3, 8);
        fault("e-p1;c1-p1.", 3, 8);
        fault("e-p1;c1;p1-e;", 1, 7);
        fault("e-p1;c1-p99;c1-p1;", 2, 9);
    }

    private static void leastFaultOfAToken() {
        fresh("of one TOKEN the least");
        String sixty = wires(60);
        // A 61st WIRE's first TOKEN that can't come is both 1 and 4.
        fault(sixty + "foo", 1, 420);
        fault(sixty + "7", 1, 420);
        fault(sixty + "-", 1, 420);
        fault(sixty + "halter", 1, 420);
        fault(sixty + "E", 1, 420);
        fault(sixty + "e", 4, 420);
        fault("c100-e;", 1, 1);
        // Both too many and to itself, at its second WORD: one kind, one place.
        fault("p1-p1;", 3, 3);
    }

    private static void sixtyWires() {
        fresh("60 WIRES at most, numbered from 0; 4 a 61st WIRE (at its first WORD)");
        dueBoard(wires(59), 59);
        dueBoard(wires(60), 60);
        dueBoard(wires(60) + " \n ", 60);
        due("count(0)", hall.count(0), 60);
        fault(wires(61), 4, 420);
        fault(wires(60) + "\n\n e-p1;", 4, 423);
        fault(wires(62), 4, 420);
        due("the BOARD stays", hall.count(0), 60);
        due("WIRES are numbered from 0", hall.idle(0), 60);
        due("wire(0)", hall.wire(0), 0);
        due("wire(59)", hall.wire(59), 59);
        due("wire(60)", hall.wire(60), -1);
    }

    private static void aSixtyFirstWireAheadOfOthers() {
        fresh("4 a 61st WIRE (.. ahead of 3 there, and of 2 behind it)");
        String sixty = "e-q1;" + wires(59);
        int end = sixty.length();
        dueBoard(sixty, 60);
        fault(sixty + "q1-c9;", 4, end);
        fault(sixty + "q99-c9;", 4, end);
        fault(sixty + "c1-c9;", 4, end);
        fault(sixty + "c9-c9;", 4, end);
        fault(sixty + "e-q1;", 4, end);
        fault(sixty + "e", 4, end);
        fault(sixty + "c.", 4, end);
        fault(sixty + "e;", 4, end);
        // With 59 ahead the same are told as ever.
        String less = sixty.substring(0, end - 7);
        fault(less + "q1-c9;", 3, end - 7);
        fault(less + "q99-c9;", 2, end - 6);
        fault(less + "c9-c9;", 3, end - 4);
    }

    private static void sevenHundredBytes() {
        fresh("A BOARD is a text of at most 700 bytes; (the end ..: 700, if there are more and no FAULT is ahead)");
        dueBoard(times(" ", 700), 0);
        fault(times(" ", 701), 1, 700);
        fault(times("\n", 740), 1, 700);
        dueBoard("e-p1;" + times(" ", 695), 1);
        fault("e-p1;" + times(" ", 696), 1, 700);
        dueBoard(times(" ", 695) + "e-p1;", 1);
        fault(times(" ", 696) + "e-p1;", 1, 700);
        fault(times(" ", 700) + "e-p1;", 1, 700);
        fresh("(the end: how many bytes there are)");
        fault(times(" ", 695) + "e-p1", 1, 699);
        fault(times(" ", 696) + "e-p1", 1, 700);
        fault(times(" ", 697) + "e-p1", 1, 700);
        fault("e-p1" + times(" ", 695), 1, 699);
        fault("e-p1" + times(" ", 697), 1, 700);
    }

    private static void tokensAcrossSevenHundred() {
        fresh("700 ..: TOKENS that begin ahead of it are read whole");
        // A WORD that goes on beyond: whole it is a HUB's, and the end comes behind it.
        fault(times(" ", 696) + "minus1-e;", 1, 700);
        fault(times(" ", 699) + "minus1-e;", 1, 700);
        fault(times(" ", 699) + "minuss1-e;", 1, 699);
        fault(times(" ", 699) + "min1-e;", 1, 699);
        fault(times(" ", 700) + "min1-e;", 1, 700);
        fault(times(" ", 695) + "e-min1;", 1, 697);
        fault(times(" ", 695) + "e-halt;", 1, 700);
        fresh("TOKENS that begin ahead of it are read whole: NUMBERS");
        fault(times(" ", 698) + "c20-e;", 1, 700);
        fault(times(" ", 698) + "c21-e;", 2, 699);
        fault(times(" ", 698) + "c200-e;", 1, 699);
        fault(times(" ", 699) + "c21-e;", 1, 700);
        fault(times(" ", 696) + "e-p12;", 1, 700);
        fault(times(" ", 696) + "e-p13;", 2, 699);
        fault(times(" ", 697) + "e-p13;", 1, 700);
        fresh("TOKENS that begin ahead of it are read whole: a HUB with a WIRE too many");
        fault("e-p12;" + times(" ", 690) + "c-p12;", 1, 697);
        fault("e-p12;" + times(" ", 690) + "e-p12;", 3, 698);
        fault("e-p12;" + times(" ", 691) + "e-p12;", 1, 700);
    }

    private static void faultsAheadOfSevenHundred() {
        fresh("700, if there are more and no FAULT is ahead");
        fault("-" + times(" ", 739), 1, 0);
        fault("e-e;" + times(" ", 736), 3, 2);
        fault("e-p13;" + times(" ", 734), 2, 3);
        fault(wires(61) + times(" ", 740 - 427), 4, 420);
        fault(wires(60) + times(" ", 320), 1, 700);
        fault(wires(60) + times(" ", 279) + "e-p1;", 4, 699);
        fault(wires(60) + times(" ", 280) + "e-p1;", 1, 700);
    }

    private static void boardStaysBehindAFault() {
        String[] bad = {"foo", "e-p99;", "e-e;", wires(61), times(" ", 701), "e-p2;c1-p3;c2-p4;-"};
        for (String s : bad) {
            fresh("board(): a FAULT: it stays");
            dueBoard("e-p1;c1-p2;", 2);
            cards(0, "4", "5");
            due("a FAULT", board(s) < 0, true);
            due("count(0)", hall.count(0), 2);
            due("the tape is empty", hall.count(2), 0);
            due("END", hall.run(0, 7), 0);
            dueLines("14", "15");
            due("keep", hall.keep(0), true);
            due("use", hall.use(0), 2);
        }
    }

    private static void faultAheadOfAny() {
        fresh("fault(): 0 without one and ahead of any");
        due("fault", hall.fault(), 0);
        due("a FAULT", board("e"), -2);
        due("fault", hall.fault(), 1);
        due("fault again", hall.fault(), 1);
        due("board", board("e-m;"), 1);
        due("fault", hall.fault(), 0);
    }

    private static void everyByteInAJob() {
        for (int b = 0; b < 256; b++) {
            if (b % 32 == 0) {
                fresh("A JOB is a text .. of WORDS, NUMBERS and ; as above");
            }
            String s = "count 1 1;" + (char) b;
            due("job with a byte " + b, job(s), isBlank(b) ? 1 : -11);
            due("fault of a byte " + b, hall.fault(), isBlank(b) ? 0 : 1);
            String within = "count 1" + (char) b + "1;";
            due("job with a byte " + b + " within", job(within), isBlank(b) ? 1 : isDigit(b) ? -7 : -8);
            due("fault of a byte " + b + " within", hall.fault(), isBlank(b) ? 0 : 1);
        }
    }

    private static void jobNames() {
        String sentence = "NAME: a WORD, none of field, break, sum, count, over";
        fresh(sentence);
        dueJob("field a 1 1;sum a 1 1;", 1);
        dueJob("field abcde 1 1;sum abcde 1 1;", 1);
        jobFault("field abcdef 1 1;", 1, 6);
        jobFault("field abcde 1 1;sum abcdef 1 1;", 1, 20);
        jobFault("field 1 1 1;", 1, 6);
        jobFault("field ; 1 1;", 1, 6);
        jobFault("field A 1 1;", 1, 6);
        jobFault("field", 1, 5);
        for (String key : new String[] {"field", "break", "sum", "count", "over"}) {
            fresh(sentence);
            jobFault("field " + key + " 1 1;", 1, 6);
            jobFault("field a 1 1;sum " + key + " 1 1;", 1, 16);
            String less = key.substring(0, key.length() - 1);
            dueJob("field " + less + " 1 1;sum " + less + " 1 1;", 1);
            String more = (key + "s").substring(0, Math.min(5, key.length() + 1));
            dueJob("field x" + more.substring(1) + " 1 1;", 0);
        }
        fresh(sentence);
        dueJob("field sums 1 1;field overs 1 1;sum sums 1 1;sum overs 1 1 over 1;", 2);
    }

    private static void jobNamesTold() {
        fresh("a FIELD's is told once, and ahead of any sum of it; 3 a NAME told twice, not told (at it)");
        dueJob("field a 1 1;field b 1 1;sum a 1 1;sum b 1 1;sum a 2 2;", 3);
        jobFault("field a 1 1;field a 1 1;", 3, 18);
        jobFault("field a 1 1;field b 1 1;field a 2 2;", 3, 30);
        jobFault("field a 1 1;sum b 1 1;", 3, 16);
        jobFault("sum a 1 1;field a 1 1;", 3, 4);
        jobFault("field ab 1 1;sum a 1 1;", 3, 17);
        jobFault("field a 1 1;sum aa 1 1;", 3, 16);
        jobFault("field a 1 1;field a", 3, 18);
        jobFault("field a 1 1;field a 0 99;", 3, 18);
        jobFault("field a 0 1;field a 1 1;", 2, 8);
        dueJob("field aaaaa 1 1;field aaaab 1 1;field baaaa 1 1;sum aaaab 1 1;", 1);
        // A FIELD of a JOB ahead is none of this one.
        jobFault("sum aaaab 1 1;", 3, 4);
    }

    private static void jobFieldColumns() {
        fresh("'field' NAME n m (COLUMNS from n to m, 6 at most); 2 a NUMBER that is not as told (m below n, or too far)");
        dueJob("field a 1 1;field b 20 20;field c 15 20;field d 1 6;field e 7 12;", 0);
        jobFault("field a 0 1;", 2, 8);
        jobFault("field a 21 21;", 2, 8);
        jobFault("field a 1 0;", 2, 10);
        jobFault("field a 1 7;", 2, 10);
        jobFault("field a 14 20;", 2, 11);
        jobFault("field a 15 21;", 2, 11);
        jobFault("field a 20 21;", 2, 11);
        jobFault("field a 20 19;", 2, 11);
        jobFault("field a 5 4;", 2, 10);
        dueJob("field a 5 5;", 0);
        dueJob("field a 5 10;", 0);
        jobFault("field a 5 11;", 2, 10);
        jobFault("field a 99 99;", 2, 8);
        jobFault("field a 1 ;", 1, 10);
        jobFault("field a 1 1 1;", 1, 12);
    }

    private static void jobBreaks() {
        fresh("'break' n o (a COLUMN, an order 1 to 3, each order once); 3 an order told twice (at it)");
        dueJob("break 1 1;break 20 2;break 1 3;", 0);
        jobFault("break 0 1;", 2, 6);
        jobFault("break 21 1;", 2, 6);
        jobFault("break 1 0;", 2, 8);
        jobFault("break 1 4;", 2, 8);
        for (int o = 1; o <= 3; o++) {
            jobFault("break 1 " + o + ";break 2 " + o + ";", 3, 18);
            jobFault("break 1 " + o + ";break 21 " + o + ";", 2, 16);
        }
        dueJob("break 1 3;break 1 1;break 1 2;", 0);
        jobFault("break 1 3;break 1 1;break 1 2;break 1 3;", 3, 38);
        jobFault("break 1 1;break 1 4;", 2, 18);
        dueJob("break 5 1;", 0);
        dueJob("break 6 1;", 0);
    }

    private static void jobSums() {
        fresh("'sum' NAME w o (w digits 1 to 6, an order o)");
        String a = "field a 1 1;";
        dueJob(a + "sum a 1 1;sum a 6 3;", 2);
        jobFault(a + "sum a 0 1;", 2, 18);
        jobFault(a + "sum a 7 1;", 2, 18);
        jobFault(a + "sum a 1 0;", 2, 20);
        jobFault(a + "sum a 1 4;", 2, 20);
        jobFault(a + "sum a 1;", 1, 19);
        jobFault(a + "sum a;", 1, 17);
        jobFault(a + "sum 1 1;", 1, 16);
        jobFault(a + "sum a 1 1", 1, 21);
        // An order needs no break.
        dueJob(a + "break 1 1;sum a 1 3;", 1);
    }

    private static void jobOver() {
        fresh("[ 'over' n ] (n a COLUMN)");
        String sum = "field a 1 1;sum a 1 1 ";
        dueJob(sum + ";", 1);
        dueJob(sum + "over 1;", 1);
        dueJob(sum + "over 20;", 1);
        jobFault(sum + "over 0;", 2, 27);
        jobFault(sum + "over 21;", 2, 27);
        jobFault(sum + "over;", 1, 26);
        jobFault(sum + "over 1 1;", 1, 29);
        jobFault(sum + "over 1 over 1;", 1, 29);
        jobFault(sum + "ove 1;", 1, 22);
        jobFault(sum + "overs 1;", 1, 22);
        jobFault("count 1 1 over 1;", 1, 10);
    }

    private static void jobCounts() {
        fresh("'count' w o (w digits 1 to 6, an order o)");
        dueJob("count 1 1;count 6 3;", 2);
        jobFault("count 0 1;", 2, 6);
        jobFault("count 7 1;", 2, 6);
        jobFault("count 1 0;", 2, 8);
        jobFault("count 1 4;", 2, 8);
        jobFault("count a 1;", 1, 6);
        jobFault("coun 1 1;", 1, 0);
        jobFault("counts 1 1;", 1, 0);
        jobFault("over 1;", 1, 0);
    }

    private static void sixFields() {
        fresh("6 FIELDS at most; 4 a seventh FIELD (at its first WORD)");
        int end = SIX_FIELDS.length();
        dueJob(SIX_FIELDS, 0);
        dueJob(SIX_FIELDS + "sum f 1 1;", 1);
        jobFault(SIX_FIELDS + "field g 1 1;", 4, end);
        jobFault(SIX_FIELDS + " field a 1 1;", 4, end + 1);
        jobFault(SIX_FIELDS + "field over 1 1;", 4, end);
        jobFault(SIX_FIELDS + "field", 4, end);
        jobFault(SIX_FIELDS + "fields", 1, end);
        jobFault(SIX_FIELDS + "break 0 1;field g 1 1;", 2, end + 6);
    }

    private static void eightWants() {
        fresh("8 WANTS (sums and counts, numbered from 0) at most; 4 a ninth WANT (at its first WORD)");
        String eight = "field a 1 1;" + times("sum a 1 1;count 1 1;", 4);
        dueJob(eight, 8);
        jobFault(eight + "count 1 1;", 4, 92);
        jobFault(eight + "sum a 1 1;", 4, 92);
        jobFault(eight + "sum b 9 9;", 4, 92);
        jobFault(eight + "count", 4, 92);
        jobFault(eight + "sum", 4, 92);
        jobFault(eight + "sums", 1, 92);
        dueJob(eight + "break 1 1;field b 1 1;", 8);
        jobFault(SIX_FIELDS + times("count 1 1;", 8) + "field g 1 1;count 1 1;", 4, SIX_FIELDS.length() + 80);
    }

    private static void jobOfThreeHundredBytes() {
        fresh("A JOB is a text of at most 300 bytes");
        dueJob(times(" ", 300), 0);
        jobFault(times(" ", 301), 1, 300);
        dueJob(times(" ", 290) + "count 1 1;", 1);
        jobFault(times(" ", 291) + "count 1 1;", 1, 300);
        dueJob("count 1 1;" + times(" ", 290), 1);
        jobFault("count 1 1;" + times(" ", 291), 1, 300);
        jobFault("count 1 1;" + times(" ", 730), 1, 300);
        jobFault("count 1 1" + times(" ", 290), 1, 299);
        jobFault("count 1 1" + times(" ", 291), 1, 300);
        jobFault("count 1 1" + times(" ", 292), 1, 300);
        // The BOARD's bound is another one.
        dueBoard(times(" ", 300) + "e-m;", 1);
    }

    private static void tokensAcrossThreeHundred() {
        fresh("FAULTS as of a BOARD (300 bytes): TOKENS that begin ahead of it are read whole");
        jobFault(times(" ", 299) + "count 1 1;", 1, 300);
        jobFault(times(" ", 299) + "counts 1 1;", 1, 299);
        jobFault(times(" ", 299) + "coun 1 1;", 1, 299);
        jobFault(times(" ", 300) + "coun 1 1;", 1, 300);
        jobFault(times(" ", 293) + "count 10 1;", 2, 299);
        jobFault(times(" ", 293) + "count 100 1;", 1, 299);
        jobFault(times(" ", 294) + "count 10 1;", 1, 300);
        jobFault(times(" ", 293) + "count 01 9;", 1, 300);
        jobFault("field abcde 1 1;" + times(" ", 277) + "field abcde", 3, 299);
        jobFault("field abcde 1 1;" + times(" ", 278) + "field abcde", 1, 300);
        jobFault(SIX_FIELDS + times(" ", 299 - SIX_FIELDS.length()) + "field g", 4, 299);
        jobFault(SIX_FIELDS + times(" ", 300 - SIX_FIELDS.length()) + "field g", 1, 300);
    }

    private static void firstFaultOfAJob() {
        fresh("FAULTS as of a BOARD: the first along the text");
        jobFault("count 9 9;", 2, 6);
        jobFault("field a 21 0;", 2, 8);
        jobFault("field a 1 1;field a 9 8;", 3, 18);
        jobFault("break 1 1;break 2 1 1;", 3, 18);
        jobFault("count 1 1 foo;sum a 1 1;", 1, 10);
        jobFault("count 1 1;;", 1, 10);
        jobFault("count 1 1 count 1 1;", 1, 10);
    }

    private static void jobStaysBehindAFault() {
        String[] bad = {"foo", "count 9 1;", "sum a 1 1;", times("count 1 1;", 9), times(" ", 301),
            "field a 1 3;break 9 1;count 1 1;count 1 1;count 1 1;-"};
        for (String s : bad) {
            fresh("job(): a FAULT: it stays (fault() tells its kind)");
            dueJob("break 2 2;count 2 2;count 1 3;", 2);
            cards(0, "11", "12", "12");
            due("a FAULT", job(s) < 0, true);
            due("the tape is empty", hall.count(2), 0);
            due("runs", hall.runs(), 1);
            due("wants(0)", hall.wants(0), 3);
            due("wanted", hall.wanted(0, 0), 3);
            dueWanted(0, "01");
            dueWanted(1, "02");
            dueWanted(2, "..3");
            due("make", hall.make(0), 17);
            due("same", hall.same(0, 0), 1);
        }
    }

    private static void faultOfTheLatest() {
        fresh("fault(): The kind of the FAULT of the latest board() (and job())");
        due("a JOB's FAULT", job("count 1 9;"), -9);
        due("fault", hall.fault(), 2);
        due("a BOARD's FAULT", board("e-e;"), -3);
        due("fault", hall.fault(), 3);
        due("a JOB's FAULT", job(times("count 1 1;", 9)), -81);
        due("fault", hall.fault(), 4);
        due("a JOB", job(""), 0);
        due("fault", hall.fault(), 0);
        due("a BOARD's FAULT", board("?"), -1);
        due("fault", hall.fault(), 1);
        // Calls that read no text leave it.
        card(0, "1");
        hall.run(0, 1);
        hall.make(0);
        hall.missing(0);
        due("fault", hall.fault(), 1);
    }
}
