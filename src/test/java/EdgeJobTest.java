/** The boundary cases of RUNS of a JOB, BOARDS MADE and LINES WANTED (part 4, promises 22 to 27). */
public final class EdgeJobTest extends Desk {
    private static final int[] NO_BOXES = {-1, 8, 9, Integer.MIN_VALUE, Integer.MAX_VALUE};

    public static void main(String[] args) {
        fourWants();
        twelveDigits();
        fourRelays();
        threePointsOfARelay();
        overTakesPoints();
        sixtyWires();
        fewestRunsAndTheFirst();
        runsOfNoWants();
        greatestWant();
        runsThereAre();
        makeThereIs();
        madeBreaks();
        madeSums();
        madeRelays();
        madeOverRelays();
        madeForThisJob();
        madeInThisOrder();
        ordersBehindCards();
        orderOfBlank();
        orderBehindTheLast();
        wantsByAnOrderAreALine();
        lastDigitsOfWorth();
        digitsBeyondAreAddedToo();
        worthSinceItsOrderCame();
        worthOfBlankAndOver();
        worthByAMillion();
        wantedOfSixtyLines();
        wantedOfNoBoxOrRun();
        wantedAtThereIs();
        wantedAtOfTheLatest();
        sameLines();
        sameEndsWithAllCards();
        sameOfNoBoxOrRun();
        sameOfSixtyLines();
        tell();
    }

    private static void dueRuns(String text, int... want) {
        due("job " + text, job(text) >= 0, true);
        due("runs of " + text, hall.runs(), want.length);
        for (int r = 0; r < want.length; r++) {
            due("wants(" + r + ") of " + text, hall.wants(r), want[r]);
        }
        due("wants behind the last", hall.wants(want.length), -1);
    }

    private static void fourWants() {
        fresh("for each part a BOARD can be MADE: no more than 4 WANTS");
        dueRuns(times("count 1 1;", 4), 15);
        dueRuns(times("count 1 1;", 5), 1, 30);
        dueRuns(times("count 1 1;", 6), 3, 60);
        dueRuns(times("count 1 1;", 8), 15, 240);
    }

    private static void twelveDigits() {
        fresh("for each part a BOARD can be MADE: no more than 12 digits");
        dueRuns("count 6 1;count 6 1;", 3);
        dueRuns("count 6 1;count 5 1;count 1 1;", 7);
        dueRuns("count 6 1;count 5 1;count 2 1;", 1, 6);
        dueRuns("count 6 1;count 6 1;count 1 1;", 1, 6);
        dueRuns("count 3 1;count 3 1;count 3 1;count 3 1;", 15);
        dueRuns("count 4 1;count 3 1;count 3 1;count 3 1;", 1, 14);
    }

    private static void fourRelays() {
        fresh("for each part a BOARD can be MADE: no more than 4 relays");
        dueRuns("count 6 1;count 3 2;count 3 3;", 7);
        dueRuns("count 4 1;count 4 2;", 3);
        dueRuns("count 4 1;count 3 2;count 1 3;", 7);
        dueRuns("count 4 1;count 4 2;count 1 3;", 1, 6);
        String a = "field a 1 1;";
        dueRuns(a + "sum a 3 1 over 1;sum a 3 2 over 2;", 3);
        dueRuns(a + "sum a 3 1 over 1;sum a 3 2 over 2;count 1 3;", 1, 6);
        dueRuns(a + "sum a 1 1 over 1;sum a 1 1 over 2;sum a 1 1 over 3;", 7);
        dueRuns(a + "sum a 1 1 over 1;sum a 1 1 over 2;sum a 1 1 over 3;sum a 1 1 over 4;", 1, 14);
        dueRuns(a + "sum a 1 1 over 1;sum a 1 1 over 2;sum a 1 2 over 3;", 1, 6);
    }

    private static void threePointsOfARelay() {
        fresh("a point r . k of a relay (one taken .. before that has a point left, else a new one): k 1 to 3");
        // Nine digits by three orders are three relays, one more of any order is a fourth, two more are too many.
        dueRuns("count 3 1;count 3 2;count 3 3;", 7);
        dueRuns("count 3 1;count 3 2;count 3 3;count 1 1;", 15);
        dueRuns("count 4 1;count 3 2;count 3 3;count 1 1;", 15);
        dueRuns("count 4 1;count 3 2;count 3 3;count 1 2;", 1, 14);
    }

    private static void overTakesPoints() {
        fresh("a relay picked by x n (one taken for this n before that has a point left, else a new one)");
        String a = "field a 1 1;";
        dueRuns(a + times("sum a 3 1 over 7;", 3), 7);
        // A fourth over 7 wants a second relay for x 7, and twelve digits want four.
        dueRuns(a + times("sum a 2 1 over 7;", 3) + "sum a 2 1;", 15);
        dueRuns(a + times("sum a 2 1 over 7;", 4), 1, 14);
        dueRuns(a + times("sum a 1 1 over 7;", 4), 15);
        dueRuns(a + "sum a 1 1 over 7;sum a 1 1 over 8;sum a 2 1 over 7;sum a 2 1 over 8;", 15);
        dueRuns(a + "sum a 1 1 over 7;sum a 1 1 over 8;sum a 2 1 over 7;sum a 3 1 over 8;", 1, 14);
    }

    private static void sixtyWires() {
        fresh("for each part a BOARD can be MADE: no more than 60 WIRES");
        dueRuns("field a 1 6;" + times("sum a 3 1;", 4), 15);
        due("make(0)", hall.make(0), 60);
        dueRuns("field a 1 6;break 1 1;" + times("sum a 3 1;", 4), 1, 14);
        dueRuns("field a 1 6;field b 1 3;break 1 1;" + times("sum a 3 1;", 3) + "sum b 3 1;", 15);
        due("make(0)", hall.make(0), 60);
        dueRuns("field a 1 6;field b 1 4;break 1 1;" + times("sum a 3 1;", 3) + "sum b 3 1;", 1, 14);
        dueRuns("field a 1 3;break 1 1;break 1 2;break 1 3;" + times("sum a 3 1;", 4), 15);
        due("make(0)", hall.make(0), 57);
    }

    private static void fewestRunsAndTheFirst() {
        fresh("The fewest RUNS; the first such: the RUN of WANT 0 has, of all sets with which these are fewest, the least");
        // WANT 0 alone would leave 6 + 6 + 6 digits for two RUNS more; with any one of them it is two in all.
        dueRuns("count 6 1;count 6 1;count 6 1;count 6 1;", 3, 12);
        dueRuns("count 1 1;count 6 1;count 6 1;", 1, 6);
        dueRuns("count 1 1;count 6 1;count 6 1;count 6 1;", 3, 12);
        dueRuns("count 6 1;count 1 1;count 6 1;count 6 1;", 3, 12);
        dueRuns("count 6 1;count 4 1;count 6 1;count 5 1;count 3 1;", 5, 26);
        // Relays let 0 go with 3 alone, and 1 with 2.
        dueRuns("field a 1 1;sum a 4 1 over 1;sum a 4 2 over 2;sum a 2 2 over 2;sum a 2 1 over 1;", 9, 6);
        fresh("then that of the least WANT left, and so on");
        dueRuns("count 6 1;count 6 1;count 6 1;count 6 1;count 1 1;", 1, 6, 24);
        dueRuns(times("count 6 1;", 8), 3, 12, 48, 192);
        dueRuns(times("count 6 1;", 7), 1, 6, 24, 96);
        dueRuns("count 6 1;count 5 1;count 6 1;count 5 1;count 2 1;count 1 1;", 1, 6, 56);
    }

    private static void runsOfNoWants() {
        fresh("runs(): RUNS of the JOB: how many");
        due("ahead of any job()", hall.runs(), 0);
        due("wants(0)", hall.wants(0), -1);
        due("make(0)", hall.make(0), -1);
        due("wanted(0, 0)", hall.wanted(0, 0), -1);
        due("same(0, 0)", hall.same(0, 0), -1);
        dueRuns("");
        dueRuns("field a 1 1;break 1 1;");
        dueRuns("count 1 1;", 1);
        dueRuns("field a 1 1;");
    }

    private static void greatestWant() {
        fresh("runs(): NONE: some WANT fits none: the greatest there may be fits");
        String breaks = "field a 1 6;break 1 1;break 2 2;break 3 3;";
        dueRuns(breaks + "sum a 6 3 over 20;", 1);
        due("make(0)", hall.make(0), 34);
        // Two of them want five relays: each has a RUN of its own.
        dueRuns(breaks + times("sum a 6 3 over 20;", 8), 1, 2, 4, 8, 16, 32, 64, 128);
        for (int r = 0; r < 8; r++) {
            due("make(" + r + ")", hall.make(r), 34);
        }
        due("make(8)", hall.make(8), -1);
        cards(0, "123456");
        due("wanted(0, 7)", hall.wanted(0, 7), 1);
        dueWanted(0, "123456");
        due("same(0, 7)", hall.same(0, 7), 1);
    }

    private static void runsThereAre() {
        fresh("wants(): The WANTS of RUN r (0 the first), as bits; NONE: there is none such");
        dueRuns(times("count 1 1;", 5), 1, 30);
        for (int r : new int[] {-1, 2, 8, Integer.MIN_VALUE, Integer.MAX_VALUE}) {
            due("wants(" + r + ")", hall.wants(r), -1);
        }
    }

    private static void makeThereIs() {
        fresh("make(): The BOARD is that MADE for RUN r: how many WIRES; NONE: there is none such");
        dueBoard("e-p1;", 1);
        due("no JOB", hall.make(0), -1);
        dueJob(times("count 1 1;", 5), 5);
        for (int r : new int[] {-1, 2, 8, Integer.MIN_VALUE, Integer.MAX_VALUE}) {
            due("make(" + r + ")", hall.make(r), -1);
            due("the BOARD stays", hall.count(0), 1);
        }
        cards(0, "1");
        due("END", hall.run(0, 7), 0);
        dueLines("1");
        due("make(0)", hall.make(0), 6);
        due("count(0)", hall.count(0), 6);
        due("make(1)", hall.make(1), 22);
        due("count(0)", hall.count(0), 22);
        due("fault", hall.fault(), 0);
    }

    private static void dueMade(String text, int r, String want) {
        due("job " + text, job(text) >= 0, true);
        int wires = hall.make(r);
        hall.keep(0);
        due("make(" + r + ") of " + text, wires, board(want));
        hall.keep(1);
        due("MADE for " + text, hall.apart(0, 1), 0);
    }

    private static void madeBreaks() {
        fresh("for each 'break' by rising orders, j counting from 1: c n - ka j, a n - kb j, u j - b o");
        String count = "e-i1.1;e-plus1;t1-s1;o1.1-rc1.1;rt1.1-p1;t1-clear1;";
        dueMade("count 1 1;", 0, count);
        dueMade("break 20 3;count 1 1;", 0, "c20-ka1;a20-kb1;u1-b3;" + count);
        dueMade("break 5 3;break 6 2;break 7 1;count 1 1;", 0,
            "c7-ka1;a7-kb1;u1-b1;c6-ka2;a6-kb2;u2-b2;c5-ka3;a5-kb3;u3-b3;" + count);
        dueMade("break 9 3;break 9 1;count 1 1;", 0, "c9-ka1;a9-kb1;u1-b1;c9-ka2;a9-kb2;u2-b3;" + count);
    }

    private static void madeSums() {
        fresh("for a sum, d from 1 on as far as the FIELD goes: c (m less d and 1) - i v . d");
        String print = "e-plus1;t2-s1;o1.1-rc1.1;rt1.1-p1;t2-clear1;";
        dueMade("field a 4 4;sum a 1 2;", 0, "c4-i1.1;" + print);
        dueMade("field a 15 20;sum a 1 2;", 0, "c20-i1.1;c19-i1.2;c18-i1.3;c17-i1.4;c16-i1.5;c15-i1.6;" + print);
        dueMade("field a 1 1;field b 2 3;sum b 1 2;", 0, "c3-i1.1;c2-i1.2;" + print);
    }

    private static void madeRelays() {
        fresh("for each WANT, d from w down to 1: a point r . k of a relay picked by t o");
        dueMade("count 6 3;count 1 1;count 1 3;", 0, "e-i1.1;e-plus1;e-i2.1;e-plus2;e-i3.1;e-plus3;"
            + "t3-s1;o1.6-rc1.1;rt1.1-p1;o1.5-rc1.2;rt1.2-p2;o1.4-rc1.3;rt1.3-p3;"
            + "t3-s2;o1.3-rc2.1;rt2.1-p4;o1.2-rc2.2;rt2.2-p5;o1.1-rc2.3;rt2.3-p6;t3-clear1;"
            + "t1-s3;o2.1-rc3.1;rt3.1-p7;t1-clear2;"
            + "t3-s4;o3.1-rc4.1;rt4.1-p8;t3-clear3;");
        // A relay with a point left is taken again.
        dueMade("count 2 3;count 1 1;count 2 3;", 0, "e-i1.1;e-plus1;e-i2.1;e-plus2;e-i3.1;e-plus3;"
            + "t3-s1;o1.2-rc1.1;rt1.1-p1;o1.1-rc1.2;rt1.2-p2;t3-clear1;"
            + "t1-s2;o2.1-rc2.1;rt2.1-p3;t1-clear2;"
            + "o3.2-rc1.3;rt1.3-p4;t3-s3;o3.1-rc3.1;rt3.1-p5;t3-clear3;");
        dueMade(times("count 1 1;", 5), 1, "e-i1.1;e-plus1;e-i2.1;e-plus2;e-i3.1;e-plus3;e-i4.1;e-plus4;"
            + "t1-s1;o1.1-rc1.1;rt1.1-p1;t1-clear1;o2.1-rc1.2;rt1.2-p2;t1-clear2;"
            + "o3.1-rc1.3;rt1.3-p3;t1-clear3;t1-s2;o4.1-rc2.1;rt2.1-p4;t1-clear4;");
    }

    private static void madeOverRelays() {
        fresh("with 'over' n: a point r . k of a relay picked by x n: e - rc r . k, rn r . k - plus v, rt r . k - minus v");
        dueMade("field a 1 1;sum a 1 1 over 20;sum a 1 1 over 1;sum a 1 1 over 20;", 0,
            "c1-i1.1;x20-s1;e-rc1.1;rn1.1-plus1;rt1.1-minus1;"
            + "c1-i2.1;x1-s2;e-rc2.1;rn2.1-plus2;rt2.1-minus2;"
            + "c1-i3.1;e-rc1.2;rn1.2-plus3;rt1.2-minus3;"
            + "t1-s3;o1.1-rc3.1;rt3.1-p1;t1-clear1;o2.1-rc3.2;rt3.2-p2;t1-clear2;o3.1-rc3.3;rt3.3-p3;t1-clear3;");
        dueMade("field a 1 1;" + times("sum a 1 1 over 9;", 4), 0,
            "c1-i1.1;x9-s1;e-rc1.1;rn1.1-plus1;rt1.1-minus1;c1-i2.1;e-rc1.2;rn1.2-plus2;rt1.2-minus2;"
            + "c1-i3.1;e-rc1.3;rn1.3-plus3;rt1.3-minus3;c1-i4.1;x9-s2;e-rc2.1;rn2.1-plus4;rt2.1-minus4;"
            + "t1-s3;o1.1-rc3.1;rt3.1-p1;t1-clear1;o2.1-rc3.2;rt3.2-p2;t1-clear2;o3.1-rc3.3;rt3.3-p3;t1-clear3;"
            + "t1-s4;o4.1-rc4.1;rt4.1-p4;t1-clear4;");
    }

    private static void madeForThisJob() {
        fresh("job(): The tape is the JOB now: nothing of those ahead");
        String over = "field a 1 6;break 4 2;sum a 6 3 over 7;";
        due("job", job(over), 1);
        due("job", job(over), 1);
        dueMade("count 1 1;", 0, "e-i1.1;e-plus1;t1-s1;o1.1-rc1.1;rt1.1-p1;t1-clear1;");
        due("job", job(over), 1);
        dueMade("field a 2 2;sum a 1 1;", 0, "c2-i1.1;e-plus1;t1-s1;o1.1-rc1.1;rt1.1-p1;t1-clear1;");
        due("a FAULT", job("field b 5 5;break 6 1;sum b 1 1 over 8;-"), -40);
        due("make", hall.make(0), 6);
        hall.keep(0);
        due("apart", hall.apart(0, 1), 0);
    }

    private static void madeInThisOrder() {
        String sentence = "MADE for a RUN ..; WIRES in this order";
        dueOrder(sentence, "field a 2 3;field b 5 5;break 9 3;break 1 1;sum a 3 1 over 4;count 2 3;sum b 1 1 over 4;",
            "c1-ka1;a1-kb1;u1-b1;c9-ka2;a9-kb2;u2-b3;"
            + "c3-i1.1;c2-i1.2;x4-s1;e-rc1.1;rn1.1-plus1;rt1.1-minus1;e-i2.1;e-plus2;"
            + "c5-i3.1;e-rc1.2;rn1.2-plus3;rt1.2-minus3;"
            + "t1-s2;o1.3-rc2.1;rt2.1-p1;o1.2-rc2.2;rt2.2-p2;o1.1-rc2.3;rt2.3-p3;t1-clear1;"
            + "t3-s3;o2.2-rc3.1;rt3.1-p4;o2.1-rc3.2;rt3.2-p5;t3-clear2;t1-s4;o3.1-rc4.1;rt4.1-p6;t1-clear3;",
            "123.7...8", "145A9...8", "267.3...9");
        dueOrder(sentence, "field a 1 4;break 5 2;sum a 4 2;count 1 2;count 1 1;",
            "c5-ka1;a5-kb1;u1-b2;c4-i1.1;c3-i1.2;c2-i1.3;c1-i1.4;e-plus1;e-i2.1;e-plus2;e-i3.1;e-plus3;"
            + "t2-s1;o1.4-rc1.1;rt1.1-p1;o1.3-rc1.2;rt1.2-p2;o1.2-rc1.3;rt1.3-p3;t2-s2;o1.1-rc2.1;rt2.1-p4;t2-clear1;"
            + "o2.1-rc2.2;rt2.2-p5;t2-clear2;t1-s3;o3.1-rc3.1;rt3.1-p6;t1-clear3;",
            "12341", "56781", "24682");
    }

    /**
     * WIRES in one order have one number each: for the LINES that the BOARD prints without one of its WIRES, the same
     * WIRES are MISSING, and the same MOVES would do, on the BOARD MADE and on the one that is told.
     */
    private static void dueOrder(String sentence, String job, String told, String... cards) {
        String[] wires = told.split("(?<=;)");
        for (int j = 0; j < wires.length; j++) {
            fresh(sentence);
            cards(0, cards);
            job(job);
            hall.make(0);
            hall.keep(0);
            board(told);
            hall.keep(1);
            StringBuilder less = new StringBuilder();
            for (int i = 0; i < wires.length; i++) {
                less.append(i == j ? "" : wires[i]);
            }
            due("board without WIRE " + j, board(less.toString()), wires.length - 1);
            hall.run(0, 7);
            int[] lines = new int[12 * hall.ran(2)];
            for (int i = 0; i < lines.length; i++) {
                lines[i] = hall.bar(i / 12, i % 12 + 1);
            }
            hall.use(1);
            String want = missingBy(lines);
            hall.use(0);
            dueText("without WIRE " + j + " of " + told, missingBy(lines), want);
            due("WIRE " + j + " is one of them", want.contains(" " + j + " "), true);
        }
    }

    private static String missingBy(int[] lines) {
        tape(lines);
        int all = hall.missing(0);
        StringBuilder b = new StringBuilder(" ");
        for (int k = 0; k < all; k++) {
            b.append(hall.wire(k)).append(' ');
        }
        tape(lines);
        b.append("| ").append(hall.moves(0)).append(": ");
        for (int k = 0; k < 20; k++) {
            b.append(hall.move(k, 0)).append(',').append(hall.move(k, 1)).append(',').append(hall.move(k, 2)).append("; ");
        }
        return b.toString();
    }

    private static void dueWantedLines(int r, String... want) {
        due("wanted(0, " + r + ")", hall.wanted(0, r), want.length);
        for (int i = 0; i < want.length; i++) {
            dueWanted(i, want[i]);
        }
        dueThrow("wantedAt behind the last", () -> hall.wantedAt(want.length, 1));
    }

    /** LINES WANTED in RUN 0, and that the BOARD MADE for it prints them. */
    private static void dueJobLines(String text, String... want) {
        due("job " + text, job(text) >= 0, true);
        dueWantedLines(0, want);
        hall.make(0);
        due("same", hall.same(0, 0), 1);
    }

    private static void ordersBehindCards() {
        fresh("an order: the greatest of those whose 'break' COLUMN has another digit (or blank) on the next CARD, 0 without");
        cards(0, "111", "112", "121", "211", "211", "222");
        dueJobLines("break 1 3;break 2 2;break 3 1;count 1 1;count 1 2;count 1 3;",
            "1",
            "1", ".2",
            "1", ".1", "..3",
            "2", ".2",
            "1", ".1", "..3");
        fresh("an order: without any 'break'");
        cards(0, "1", "2", "3");
        dueJobLines("count 1 1;count 1 2;count 1 3;", "3", ".3", "..3");
    }

    private static void orderOfBlank() {
        fresh("another digit (or blank)");
        cards(0, "0", ".", "_", "A", "0", "J", "9");
        dueJobLines("break 1 1;count 1 1;", "1", "2", "2", "2");
        cards(0, "...................0", "...................1");
        dueJobLines("break 20 1;count 1 1;", "1", "1");
    }

    private static void orderBehindTheLast() {
        fresh("behind the last CARD 3");
        cards(0, "1");
        dueJobLines("break 1 1;count 1 1;count 1 2;count 1 3;", "1", ".1", "..1");
        dueJobLines("count 1 3;", "1");
        hall.empty(0);
        dueJobLines("count 1 3;");
        dueThrow("wantedAt", () -> hall.wantedAt(0, 1));
    }

    private static void wantsByAnOrderAreALine() {
        fresh("for each order from 1 to this one, the WANTS by it, if there are any, are one LINE");
        cards(0, "1", "2");
        dueJobLines("break 1 3;count 1 3;count 2 1;count 1 3;", ".01", "1..1", ".01", "1..1");
        dueJobLines("break 1 3;count 1 2;", "1", "1");
        dueJobLines("break 1 1;count 1 2;", "2");
        // Of the RUN's own WANTS alone, on bars from the first on.
        due("job", job("break 1 1;count 6 1;count 6 1;count 1 3;"), 3);
        dueWantedLines(0, "000001", "000001");
        dueWantedLines(1, "000001", "000001", "......2");
    }

    private static void lastDigitsOfWorth() {
        fresh("of each the last w digits of its WORTH without sign");
        cards(0, "123456A");
        String a = "field a 1 6;";
        dueJobLines(a + "sum a 6 1;", "123456");
        dueJobLines(a + "sum a 5 1;", "23456");
        dueJobLines(a + "sum a 1 1;", "6");
        dueJobLines(a + "sum a 6 1 over 7;", "123456");
        dueJobLines(a + "sum a 2 1 over 7;sum a 3 1;", "56456");
        dueJobLines("field b 6 6;sum b 6 1;", "000006");
    }

    private static void digitsBeyondAreAddedToo() {
        fresh("(A FIELD's digits beyond w are added, too.)");
        cards(0, "95", "95");
        due("job", job("field a 1 2;sum a 1 1;"), 1);
        dueWantedLines(0, "0");
        hall.make(0);
        due("END", hall.run(0, 7), 0);
        dueLines("0");
        hall.keep(0);
        due("board", board("c2-i1.1;c1-i1.2;e-plus1;t1-s1;o1.1-rc1.1;rt1.1-p1;t1-clear1;"), 7);
        hall.keep(1);
        due("apart", hall.apart(0, 1), 0);
    }

    private static void worthSinceItsOrderCame() {
        fresh("WORTH: over the CARDS since its order came last");
        cards(0, "11", "12", "21", "22");
        // Orders behind the CARDS: 1, 2, 1, 3. A greater order is one of the lesser, too.
        dueJobLines("break 1 2;break 2 1;count 1 1;count 1 2;count 1 3;",
            "1", "1", ".2", "1", "1", ".2", "..4");
    }

    private static void worthOfBlankAndOver() {
        fresh("of 'sum' the FIELD's number (blank as 0), taken away, if n is PUNCHED OVER");
        cards(0, "1.2", "..._", "_1.A", "0");
        dueJobLines("field a 1 3;sum a 3 1 over 4;", "092");
        dueJobLines("field a 1 3;sum a 3 1;", "112");
        cards(0, "1..................A");
        dueJobLines("field a 1 1;sum a 1 1 over 20;", "1");
        cards(0, "5", "7..................A");
        dueJobLines("field a 1 1;sum a 2 1 over 20;", "02");
    }

    private static void worthByAMillion() {
        fresh("by 1000000, the rest, with its sign, CARD by CARD");
        String job = "field a 1 6;sum a 6 1 over 7;";
        cards(0, "999999");
        dueJobLines(job, "999999");
        cards(0, "999999", "000001");
        dueJobLines(job, "000000");
        cards(0, "999999", "000002");
        dueJobLines(job, "000001");
        cards(0, "999999A", "000002A");
        dueJobLines(job, "000001");
        // CARD by CARD: 999999, 1 (over), -5: 1999998 less 6 at once would be another one.
        cards(0, "999999", "000002", "000006A");
        dueJobLines(job, "000005");
        cards(0, "999999A", "000002A", "000006");
        dueJobLines(job, "000005");
        cards(0, "999999A", "999999A", "999999");
        dueJobLines(job, "000001");
    }

    private static void wantedOfSixtyLines() {
        fresh("wanted(): How many LINES are WANTED of a BOX in RUN r (60 at most are told)");
        for (int k = 0; k < 20; k++) {
            card(0, "" + k % 2);
        }
        dueJob("break 1 3;count 1 1;count 1 2;count 1 3;", 3);
        due("wanted", hall.wanted(0, 0), 60);
        due("wantedAt(59, 3)", hall.wantedAt(59, 3), 1);
        dueThrow("wantedAt(60, 1)", () -> hall.wantedAt(60, 1));
        card(0, "7");
        due("wanted", hall.wanted(0, 0), 60);
        due("wantedAt(0, 1)", hall.wantedAt(0, 1), 1);
        due("wantedAt(59, 3)", hall.wantedAt(59, 3), 1);
        dueThrow("wantedAt(60, 1)", () -> hall.wantedAt(60, 1));
        cards(0, copies("1", 19));
        card(0, "2");
        due("wanted", hall.wanted(0, 0), 6);
    }

    private static void wantedOfNoBoxOrRun() {
        fresh("wanted(): NONE: no such ones");
        cards(0, "1");
        cards(7, "1", "1");
        dueJob(times("count 1 1;", 5), 5);
        due("wanted(0, 0)", hall.wanted(0, 0), 1);
        due("wanted(7, 1)", hall.wanted(7, 1), 1);
        for (int box : NO_BOXES) {
            due("wanted(" + box + ", 0)", hall.wanted(box, 0), -1);
        }
        for (int r : new int[] {-1, 2, 8, Integer.MIN_VALUE, Integer.MAX_VALUE}) {
            due("wanted(0, " + r + ")", hall.wanted(0, r), -1);
        }
        due("neither", hall.wanted(8, 2), -1);
        dueWanted(0, "2222");
    }

    private static void wantedAtThereIs() {
        fresh("wantedAt(): a digit, or 15. NoSuchElementException: there is none such, or ahead of any");
        dueThrow("wantedAt(0, 1)", () -> hall.wantedAt(0, 1));
        due("a NONE", hall.wanted(0, 0), -1);
        dueThrow("wantedAt(0, 1)", () -> hall.wantedAt(0, 1));
        cards(0, "1", "2");
        dueJob("break 1 1;" + times("count 3 1;", 4), 4);
        due("wanted", hall.wanted(0, 0), 2);
        dueWanted(0, "001001001001");
        int[][] none = {{-1, 1}, {2, 1}, {0, 0}, {0, 13}, {0, -1}, {1, 13}, {60, 1}, {Integer.MIN_VALUE, 1},
            {Integer.MAX_VALUE, 1}, {0, Integer.MIN_VALUE}, {0, Integer.MAX_VALUE}};
        for (int[] one : none) {
            dueThrow("wantedAt(" + one[0] + ", " + one[1] + ")", () -> hall.wantedAt(one[0], one[1]));
        }
        dueWanted(1, "001001001001");
    }

    private static void wantedAtOfTheLatest() {
        fresh("wantedAt(): by the latest wanted() that was not NONE");
        cards(0, "1", "2");
        dueJob("break 1 1;count 1 1;", 1);
        due("wanted", hall.wanted(0, 0), 2);
        due("a NONE", hall.wanted(0, 1), -1);
        due("a NONE", hall.wanted(8, 0), -1);
        dueWanted(1, "1");
        // Neither same(), nor another JOB, nor other CARDS.
        due("same", hall.same(1, 0), 1);
        dueJob("count 6 1;", 1);
        hall.empty(0);
        dueWanted(1, "1");
        due("wanted", hall.wanted(0, 0), 0);
        dueThrow("wantedAt(0, 1)", () -> hall.wantedAt(0, 1));
    }

    private static void sameLines() {
        fresh("same(): 1 .. prints the LINES WANTED in RUN r, 0 not");
        cards(0, "1", "1");
        dueJob("count 1 1;count 1 2;", 2);
        String one = "e-i1.1;e-plus1;t1-s1;o1.1-rc1.1;rt1.1-p1;";
        String two = "t2-s2;o1.1-rc2.1;rt2.1-p2;";
        dueBoard(one + two, 8);
        due("same", hall.same(0, 0), 1);
        dueBoard(one, 5);
        due("a LINE less", hall.same(0, 0), 0);
        dueBoard(one + two + "t3-p3;", 9);
        due("a LINE more", hall.same(0, 0), 0);
        dueBoard(one + two.replace("p2", "p3"), 8);
        due("another LINE", hall.same(0, 0), 0);
        dueBoard(one + two + "t1-p12;", 9);
        due("a digit more", hall.same(0, 0), 0);
        // What is on the WHEELS is of no matter.
        dueBoard(one + two + "e-plus4;e-i4.1;", 10);
        due("same", hall.same(0, 0), 1);
        dueBoard("", 0);
        due("no WIRES", hall.same(0, 0), 0);
        due("no CARDS", hall.same(1, 0), 1);
    }

    private static void sameEndsWithAllCards() {
        fresh("same(): 1 the RUN of a BOX by the BOARD ends with all CARDS");
        cards(0, "1", "1");
        dueJob("count 1 1;", 1);
        String one = "e-i1.1;e-plus1;t1-s1;o1.1-rc1.1;rt1.1-p1;";
        dueBoard(one + "c2-halt;", 6);
        due("all CARDS", hall.same(0, 0), 1);
        dueBoard(one + "a1-s2;e-rc2.1;rn2.1-halt;", 8);
        due("a halt at the last CARD", hall.same(0, 0), 0);
        dueBoard(one + "t3-o4.6;", 6);
        due("a JAM at the end", hall.same(0, 0), 0);
        dueBoard(one + "e-m;", 6);
        due("CARDS PUNCHED fit", hall.same(0, 0), 1);
        due("none is kept", hall.count(1), 2);
    }

    private static void sameOfNoBoxOrRun() {
        fresh("same(): NONE: no such ones");
        cards(0, "1");
        dueJob(times("count 1 1;", 5), 5);
        hall.make(0);
        due("same(0, 0)", hall.same(0, 0), 1);
        due("same(0, 1)", hall.same(0, 1), 0);
        due("same(7, 1)", hall.same(7, 1), 1);
        for (int box : NO_BOXES) {
            due("same(" + box + ", 0)", hall.same(box, 0), -1);
        }
        for (int r : new int[] {-1, 2, 8, Integer.MIN_VALUE, Integer.MAX_VALUE}) {
            due("same(0, " + r + ")", hall.same(0, r), -1);
        }
        dueJob("", 0);
        due("no RUN", hall.same(0, 0), -1);
    }

    private static void sameOfSixtyLines() {
        fresh("same(): of sixty LINES, and of more");
        for (int k = 0; k < 20; k++) {
            card(0, "" + k % 2);
        }
        dueJob("break 1 3;count 1 1;count 1 2;count 1 3;", 3);
        hall.make(0);
        due("60 LINES", hall.same(0, 0), 1);
        due("END", hall.run(0, 7), 0);
        due("LINES", hall.ran(2), 60);
        card(0, "7");
        due("63 LINES", hall.same(0, 0), 0);
        due("END", hall.run(0, 7), 3);
    }
}
