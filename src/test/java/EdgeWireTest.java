/** The boundary cases of questions about WIRES and CARDS left out (parts 3 and 5, promises 15 to 20 and 30 to 33). */
public final class EdgeWireTest extends Desk {
    private static final int[] NO_BOXES = {-1, 8, 9, Integer.MIN_VALUE, Integer.MAX_VALUE};
    private static final String FOUR_CARDS_EACH = "e-rc1.1;t1-rc1.1;t2-rc1.1;t3-rc1.1;rc1.1-m;e-b3;";

    public static void main(String[] args) {
        outcomeHasItsEnd();
        outcomeHasItsLines();
        outcomeHasItsWheels();
        outcomeHasCardsPunched();
        outcomeHasNothingElse();
        outcomeFitsIntoAnEmptyBox();
        idleOfNoBox();
        idleOfNoWiresAndNoCards();
        missingPrintsJustToldLines();
        missingWhateverItsEnd();
        missingOfNoLines();
        missingLinesOfTwelve();
        missingBytesOfLines();
        missingOfManyLines();
        missingOfBytesBeyondTheEnd();
        missingOfNoBox();
        wireThereIs();
        wireOfTheLatest();
        testsOfTenCards();
        testsOfThisCardAlone();
        testsAreFewest();
        testsAreLeast();
        testsOfNoCards();
        testsOfNoBox();
        testsAheadOfAny();
        testsOfSixtyWires();
        unseenIfTheSame();
        unseenOfFewCards();
        unseenOfNoBox();
        unseenAtThereIs();
        moveIsToAnotherHub();
        moveIsNotToItsOtherEnd();
        moveIsToAHubThatMayHaveMore();
        moveIsOfTheSameWord();
        moveToEachHubOfAWord();
        movesOfThreeCards();
        movesWhateverTheEnd();
        movesInOrder();
        movesOfLinesAsInMissing();
        movesOfNoBox();
        moveBelowAHundred();
        moveThereIs();
        tell();
    }

    private static void dueWires(int... want) {
        for (int k = 0; k < want.length; k++) {
            due("wire(" + k + ")", hall.wire(k), want[k]);
        }
        due("wire(" + want.length + ")", hall.wire(want.length), -1);
    }

    private static void dueIdle(String text, int... want) {
        due("board " + text, board(text) >= 0, true);
        due("idle by " + text, hall.idle(0), want.length);
        dueWires(want);
    }

    private static void outcomeHasItsEnd() {
        fresh("OUTCOME of a RUN: its END");
        cards(0, "1");
        dueIdle("e-halt;");
        dueIdle("c1-e;");
        dueIdle("a1-halt;", 0);
        cards(0, "1", ".");
        dueIdle("c1-ka1;u1-e;");
    }

    private static void outcomeHasItsLines() {
        fresh("OUTCOME of a RUN: its LINES");
        cards(0, "1", "0", ".");
        dueIdle("c1-p1;c2-p2;", 1);
        card(0, ".7");
        dueIdle("c1-p1;c2-p2;c3-p3;", 2);
        // A digit 0 and blank are not the same, and the last LINE is as good as the first.
        cards(0, "1", "10");
        dueIdle("c1-p1;c2-p12;");
        dueIdle("t3-p12;");
        dueIdle("t1-s1;o1.1-rc1.1;rt1.1-p1;");
    }

    private static void outcomeHasItsWheels() {
        fresh("OUTCOME of a RUN: what is on the WHEELS at its end");
        cards(0, "1", "2");
        for (int w = 1; w <= 4; w++) {
            dueIdle("e-plus" + w + ";c1-i" + w + ".6;c2-i" + w + ".1;", 2);
        }
        dueIdle("e-plus1;c1-i1.1;t3-clear1;", 0, 1);
        dueIdle("e-plus1;c1-i1.1;e-clear1;", 0, 1);
        dueIdle("e-plus1;e-minus1;c1-i1.1;", 2);
    }

    private static void outcomeHasCardsPunched() {
        fresh("OUTCOME of a RUN: CARDS PUNCHED");
        cards(0, "1", ".0");
        dueIdle("e-m;c1-q1;c2-q20;c3-q3;", 3);
        dueIdle("t3-m;c1-q1;", 1);
        dueIdle("c2-m;c1-q1;", 1);
    }

    private static void outcomeHasNothingElse() {
        fresh("OUTCOME of a RUN: nothing but what is told: CYCLES, how often a WHEEL RAN OVER, the HUBS of a JAM");
        cards(0, "5", "5");
        dueIdle("e-b3;", 0);
        dueIdle("e-plus1;c1-i1.6;", 0, 1);
        cards(0, "123");
        dueIdle("c1-rc1.1;c2-rc1.1;c3-rc1.1;", 0, 1, 2);
    }

    private static void outcomeFitsIntoAnEmptyBox() {
        fresh("CARDS PUNCHED (that fit into a BOX that is empty)");
        cards(0, copies("1", 10));
        dueBoard(FOUR_CARDS_EACH, 6);
        for (int box = 1; box < 8; box++) {
            due("END", hall.run(0, box), 0);
        }
        // Full BOXES are of no matter: the first 40 CARDS are PUNCHED, and t1 - p1 behind them prints.
        dueIdle(FOUR_CARDS_EACH + "c2-q1;c1-q2;", 6);
        dueIdle(FOUR_CARDS_EACH.replace("t3-rc1.1;", "") + "t3-p1;", new int[0]);
        card(0, "A");
        card(0, "A");
        // The 41st ends the RUN ahead of the 12th CARD, so that its halt does nothing.
        dueIdle(FOUR_CARDS_EACH + "x1-s2;a1-rc2.1;rt2.1-halt;", 6, 7, 8);
    }

    private static void idleOfNoBox() {
        fresh("idle(): How many WIRES are IDLE for a BOX; NONE: no such one");
        dueBoard("c1-p1;", 1);
        cards(7, "1");
        due("idle(0)", hall.idle(0), 1);
        due("idle(7)", hall.idle(7), 0);
        due("idle(0)", hall.idle(0), 1);
        for (int box : NO_BOXES) {
            due("idle(" + box + ")", hall.idle(box), -1);
            due("wire(0) stays", hall.wire(0), 0);
        }
    }

    private static void idleOfNoWiresAndNoCards() {
        fresh("idle(): of no WIRES, of no CARDS, of sixty WIRES");
        due("no WIRES", hall.idle(0), 0);
        dueWires();
        dueBoard(wires(60), 60);
        due("no CARDS", hall.idle(0), 60);
        for (int k = 0; k < 60; k++) {
            due("wire(" + k + ")", hall.wire(k), k);
        }
        due("wire(60)", hall.wire(60), -1);
        dueBoard("", 0);
        cards(0, "1");
        due("no WIRES", hall.idle(0), 0);
        dueWires();
    }

    private static void missingPrintsJustToldLines() {
        fresh("MISSING: WIRES without each of which the RUN prints just told LINES");
        cards(0, "12", "34");
        dueBoard("c1-p1;c2-p2;c3-p3;", 3);
        lines("1", "3");
        due("missing", hall.missing(0), 1);
        dueWires(1);
        lines("1");
        due("one LINE less", hall.missing(0), 0);
        lines("1", "3", "3");
        due("one LINE more", hall.missing(0), 0);
        lines("3", "1");
        due("in another order", hall.missing(0), 0);
        lines("12", "34");
        due("the WIRE that does nothing", hall.missing(0), 1);
        dueWires(2);
        lines("1..........0", "3");
        due("a digit 0 is not blank", hall.missing(0), 0);
        lines("1", "3..........0");
        due("nor in the last LINE", hall.missing(0), 0);
    }

    private static void missingWhateverItsEnd() {
        fresh("MISSING: .. (whatever its END)");
        cards(0, "11", "1");
        dueBoard("c1-p1;e-halt;c1-c2;", 3);
        lines("1");
        due("a halt", hall.missing(0), 1);
        dueWires(2);
        due("no LINES: a JAM", hall.missing(0), 2);
        dueWires(0, 1);
        dueBoard("c1-p1;e-plus1;e-i1.1;", 3);
        lines("1", "1");
        due("whatever is on the WHEELS", hall.missing(0), 2);
        dueWires(1, 2);
    }

    private static void missingOfNoLines() {
        fresh("missing(): (.. no bytes: no LINES)");
        cards(0, "1");
        dueBoard("c1-p1;", 1);
        due("no bytes", hall.missing(0), 1);
        dueBoard("c1-p1;e-plus1;", 2);
        due("no bytes", hall.missing(0), 1);
        dueWires(0);
        dueBoard("c1-p1;c1-p2;", 2);
        due("no bytes", hall.missing(0), 0);
        dueWires();
        due("no CARDS", hall.missing(1), 2);
    }

    private static void missingLinesOfTwelve() {
        fresh("missing(): LINES (12 each ..); NONE: .. not as told");
        cards(0, "1");
        dueBoard("c1-p1;x1-p2;", 2);
        lines("1");
        due("12 bytes", hall.missing(0), 1);
        for (int n : new int[] {1, 11, 13, 23, 25, 740}) {
            tape(columns("1", n));
            due(n + " bytes", hall.missing(0), -1);
            due("the tape is empty", hall.count(2), 0);
            due("wire(0) stays", hall.wire(0), 1);
        }
    }

    private static void missingBytesOfLines() {
        for (int b = 0; b < 256; b++) {
            if (b % 64 == 0) {
                fresh("missing(): LINES (.. 0 to 9 or 15)");
                cards(0, "7");
                dueBoard("c1-p1;c1-p12;", 2);
            }
            boolean fine = b <= 9 || b == 15;
            int[] first = columns("", 12);
            first[0] = b;
            tape(first);
            due("a first byte " + b, hall.missing(0), fine ? b == 7 ? 1 : 0 : -1);
            int[] last = columns("", 24);
            last[23] = b;
            tape(last);
            due("a last byte " + b, hall.missing(0), fine ? 0 : -1);
        }
    }

    private static void missingOfManyLines() {
        fresh("missing(): as many LINES as a tape holds");
        cards(0, copies("1", 30));
        dueBoard("e-rc1.1;t1-rc1.1;rc1.1-p1;e-b1;c2-p2;", 5);
        lines(copies("1", 60));
        due("60 LINES", hall.missing(0), 1);
        dueWires(4);
        lines(copies("1", 61));
        due("61 LINES", hall.missing(0), 0);
        card(0, "1");
        lines(copies("1", 61));
        due("61 LINES are never printed", hall.missing(0), 0);
        lines(copies("1", 60));
        due("60 LINES ahead of the 61st", hall.missing(0), 1);
        dueWires(4);
        lines(copies("1", 59));
        due("59 LINES", hall.missing(0), 0);
        lines(copies("1", 31));
        due("31 LINES", hall.missing(0), 2);
        dueWires(0, 1);
    }

    private static void missingOfBytesBeyondTheEnd() {
        fresh("missing(), moves(): The tape has its first n bytes alone");
        cards(0, "12");
        dueBoard("c1-p1;c2-p2;", 2);
        int[] told = columns("1...........", 36);
        told[13] = 99;
        tape(told);
        hall.end(12);
        due("missing", hall.missing(0), 1);
        dueWires(1);
        told[0] = 2;
        told[1] = 2;
        tape(told);
        hall.end(12);
        due("moves", hall.moves(0), 1);
    }

    private static void missingOfNoBox() {
        fresh("missing(): NONE: no such one");
        cards(7, "1");
        dueBoard("x1-p1;c1-p2;", 2);
        lines(".1");
        due("missing(7)", hall.missing(7), 1);
        dueWires(0);
        for (int box : NO_BOXES) {
            lines(".1");
            due("missing(" + box + ")", hall.missing(box), -1);
            due("the tape is empty", hall.count(2), 0);
            due("wire(0) stays", hall.wire(0), 0);
        }
        due("missing(0)", hall.missing(0), 2);
    }

    private static void wireThereIs() {
        fresh("wire(): The k-th WIRE (rising) ..; NONE: there is none such, or ahead of any");
        for (int k = -1; k <= 1; k++) {
            due("wire(" + k + ")", hall.wire(k), -1);
        }
        due("a NONE", hall.idle(8), -1);
        tape(16);
        due("a NONE", hall.missing(0), -1);
        due("wire(0)", hall.wire(0), -1);
        cards(0, "1");
        dueIdle("c2-p1;c1-p2;c3-p3;", 0, 2);
        for (int k : new int[] {-1, 2, 60, Integer.MIN_VALUE, Integer.MAX_VALUE}) {
            due("wire(" + k + ")", hall.wire(k), -1);
        }
    }

    private static void wireOfTheLatest() {
        fresh("wire(): of the latest idle() or missing() that was not NONE");
        cards(0, "12");
        dueBoard("c1-p1;c3-p3;c2-p2;", 3);
        due("idle", hall.idle(0), 1);
        dueWires(1);
        lines("1");
        due("missing", hall.missing(0), 1);
        dueWires(2);
        due("idle", hall.idle(0), 1);
        dueWires(1);
        lines("9");
        due("missing", hall.missing(0), 0);
        dueWires();
        due("idle", hall.idle(0), 1);
        tape(1);
        due("a NONE", hall.missing(0), -1);
        dueWires(1);
        dueBoard("", 0);
        hall.empty(0);
        dueWires(1);
    }

    private static void dueTests(int cards, int set, int shown) {
        due("tests", hall.tests(0), cards);
        due("testSet", hall.testSet(), set);
        due("shown", hall.shown(), shown);
    }

    private static void testsOfTenCards() {
        fresh("TESTS, of the first 10 CARDS of a BOX");
        dueBoard("c1-p1;c2-p2;", 2);
        cards(0, "", "", "", "", "", "", "", "", "", "1", ".1");
        dueTests(1, 512, 1);
        cards(0, "", "", "", "", "", "", "", "", "", "", "11");
        dueTests(0, 0, 0);
        cards(0, "", "", "", "", "", "", "", "", "1", ".1", "11");
        dueTests(2, 768, 2);
        cards(0, ".1", "", "", "", "", "", "", "", "1");
        dueTests(2, 257, 2);
        // All ten, each for one WIRE.
        dueBoard("c1-p1;c2-p2;c3-p3;c4-p4;c5-p5;c6-p6;c7-p7;c8-p8;c9-p9;c10-p10;c11-p11;", 11);
        cards(0, "1", ".1", "..1", "...1", "....1", ".....1", "......1", ".......1", "........1", ".........1",
            "..........1");
        dueTests(10, 1023, 10);
    }

    private static void testsOfThisCardAlone() {
        fresh("a CARD SHOWS a WIRE, if the OUTCOME of a RUN of this CARD alone is another one without the WIRE");
        dueBoard("a1-p1;c1-p2;", 2);
        cards(0, "1", "2");
        dueTests(1, 1, 1);
        dueBoard("c1-ka1;a1-kb1;u1-p1;", 3);
        cards(0, "1", "1");
        dueTests(1, 1, 2);
        // Each part of the OUTCOME counts: END, LINES, WHEELS, CARDS PUNCHED.
        dueBoard("x1-halt;x2-p1;x3-plus1;e-i1.1;x4-m;", 5);
        cards(0, "A", ".A", "..A", "...A");
        dueTests(4, 15, 5);
    }

    private static void testsAreFewest() {
        fresh("The fewest CARDS that together SHOW all WIRES that any of the ten SHOWS");
        dueBoard("c1-p1;c2-p2;c3-p3;c4-p4;", 4);
        cards(0, "1", ".1", "..1", "...1", "1111");
        dueTests(1, 16, 4);
        cards(0, "1", ".1", "..1", "...1", "11", "..11");
        dueTests(2, 48, 4);
        cards(0, "1", "1", "1");
        dueTests(1, 1, 1);
    }

    private static void testsAreLeast() {
        fresh("of such sets the least as bits");
        dueBoard("c1-p1;c2-p2;c3-p3;", 3);
        cards(0, "11", ".11", "1.1");
        dueTests(2, 3, 3);
        cards(0, ".1", "11", ".11", "1.1");
        dueTests(2, 6, 3);
        cards(0, "111", "111", "111");
        dueTests(1, 1, 3);
        cards(0, "", "1", "111", "111");
        dueTests(1, 4, 3);
    }

    private static void testsOfNoCards() {
        fresh("tests(): of no CARDS, of no WIRES, of none that any SHOWS");
        dueTests(0, 0, 0);
        dueBoard("c1-p1;", 1);
        dueTests(0, 0, 0);
        card(0, "1");
        dueTests(1, 1, 1);
        hall.empty(0);
        dueTests(0, 0, 0);
        cards(0, ".1");
        dueTests(0, 0, 0);
    }

    private static void testsOfNoBox() {
        fresh("tests(): NONE: no such BOX");
        dueBoard("c1-p1;", 1);
        cards(0, ".", "1");
        cards(7, "1");
        dueTests(1, 2, 1);
        for (int box : NO_BOXES) {
            due("tests(" + box + ")", hall.tests(box), -1);
            due("testSet stays", hall.testSet(), 2);
            due("shown stays", hall.shown(), 1);
        }
        due("tests(7)", hall.tests(7), 1);
        due("testSet", hall.testSet(), 1);
    }

    private static void testsAheadOfAny() {
        fresh("testSet(), shown(): 0 ahead of any");
        due("testSet", hall.testSet(), 0);
        due("shown", hall.shown(), 0);
        cards(0, "1");
        dueBoard("c1-p1;", 1);
        due("a NONE", hall.tests(8), -1);
        due("testSet", hall.testSet(), 0);
        due("shown", hall.shown(), 0);
        dueTests(1, 1, 1);
        hall.empty(0);
        dueBoard("", 0);
        due("testSet stays", hall.testSet(), 1);
        due("shown stays", hall.shown(), 1);
    }

    private static void testsOfSixtyWires() {
        fresh("shown(): of sixty WIRES");
        StringBuilder b = new StringBuilder();
        // A WIRE to each of 12 bars, 24 digits and 20 COLUMNS, and to plus, minus, m and halt: each is SHOWN.
        for (int n = 1; n <= 12; n++) {
            b.append("c").append(n).append("-p").append(n).append(';');
        }
        for (int w = 1; w <= 4; w++) {
            for (int d = 1; d <= 6; d++) {
                b.append("c").append(6 * (w % 2) + d).append("-i").append(w).append('.').append(d).append(';');
            }
        }
        for (int n = 1; n <= 19; n++) {
            b.append("c").append(n).append("-q").append(n).append(';');
        }
        b.append("e-plus1;e-plus2;e-minus3;e-minus4;e-m;");
        dueBoard(b.toString(), 60);
        cards(0, "11111111111111111111", "1111111111111111111", "..................1");
        dueTests(1, 1, 60);
        cards(0, "....................", "..................1", "111111111111111111");
        dueTests(2, 6, 60);
    }

    private static void dueUnseen(int... want) {
        due("unseen", hall.unseen(0), want.length);
        for (int k = 0; k < want.length; k++) {
            due("unseenAt(" + k + ")", hall.unseenAt(k), want[k]);
        }
        due("unseenAt(" + want.length + ")", hall.unseenAt(want.length), -1);
    }

    private static void unseenIfTheSame() {
        fresh("CARD k and the next one go by together, and only k is read: UNSEEN, if the OUTCOME .. is the same");
        dueBoard("c1-i1.1;e-plus1;", 2);
        cards(0, "1", "0", "2", ".", "3");
        dueUnseen(0, 2);
        dueBoard("c1-p1;", 1);
        cards(0, "1", "1", ".", "2", "2", ".");
        dueUnseen(1, 4);
        dueBoard("c1-p1;c1-halt;", 2);
        dueUnseen(0, 1, 2, 3, 4);
        dueBoard("x1-halt;", 1);
        cards(0, "1", "A", "1");
        dueUnseen(1);
        dueBoard("c1-m;c1-q1;", 2);
        cards(0, "1", ".", "1");
        dueUnseen(0);
        // The OUTCOME by the card ahead, which sees another next one.
        dueBoard("a1-p1;", 1);
        cards(0, "1", "1", "1");
        dueUnseen();
        cards(0, "1", ".", ".");
        dueUnseen(0, 1);
    }

    private static void unseenOfFewCards() {
        fresh("unseen(): of no CARD, of one, of forty");
        dueUnseen();
        cards(0, "1");
        dueUnseen();
        cards(0, "1", "1");
        dueUnseen(0);
        cards(0, copies("1", 40));
        due("unseen", hall.unseen(0), 39);
        due("unseenAt(0)", hall.unseenAt(0), 0);
        due("unseenAt(38)", hall.unseenAt(38), 38);
        due("unseenAt(39)", hall.unseenAt(39), -1);
    }

    private static void unseenOfNoBox() {
        fresh("unseen(): NONE: no such BOX");
        cards(0, "1", "1", "1");
        cards(7, "1", "1");
        dueUnseen(0, 1);
        for (int box : NO_BOXES) {
            due("unseen(" + box + ")", hall.unseen(box), -1);
            due("unseenAt(1) stays", hall.unseenAt(1), 1);
        }
        due("unseen(7)", hall.unseen(7), 1);
        due("unseenAt(1)", hall.unseenAt(1), -1);
    }

    private static void unseenAtThereIs() {
        fresh("unseenAt(): NONE: there is none such, or ahead of any");
        for (int k = -1; k <= 1; k++) {
            due("unseenAt(" + k + ")", hall.unseenAt(k), -1);
        }
        due("a NONE", hall.unseen(8), -1);
        due("unseenAt(0)", hall.unseenAt(0), -1);
        cards(0, "1", "1", "1");
        dueUnseen(0, 1);
        for (int k : new int[] {-1, 2, 39, 40, Integer.MIN_VALUE, Integer.MAX_VALUE}) {
            due("unseenAt(" + k + ")", hall.unseenAt(k), -1);
        }
        hall.empty(0);
        due("unseenAt(1) stays", hall.unseenAt(1), 1);
    }

    /** Each MOVE three numbers: the WIRE, the end, the HUB. */
    private static void dueMoves(int... want) {
        due("moves", hall.moves(0), want.length / 3);
        for (int i = 0; i < want.length; i++) {
            due("move(" + i / 3 + ", " + i % 3 + ")", hall.move(i / 3, i % 3), want[i]);
        }
        due("move behind the last", hall.move(want.length / 3, 0), -1);
    }

    private static void moveIsToAnotherHub() {
        fresh("A MOVE: one end of one WIRE (0 the first, 1 the second) at another HUB of the same word");
        cards(0, "12");
        dueBoard("c1-p1;", 1);
        lines("1");
        dueMoves();
        lines("2");
        dueMoves(0, 0, 1);
        lines("...........1");
        dueMoves(0, 1, 11);
        dueBoard("p1-c1;", 1);
        lines("2");
        dueMoves(0, 1, 1);
        lines(".1");
        dueMoves(0, 0, 1);
        cards(0, "...................7");
        dueBoard("c1-p1;", 1);
        lines("7");
        dueMoves(0, 0, 19);
    }

    private static void moveIsNotToItsOtherEnd() {
        fresh("A MOVE: .. and is not its other end");
        cards(0, "1234");
        dueBoard("t1-t2;e-p1;", 2);
        lines("1");
        // t1 - t2: the first end to t3, the second to t3; e has no other HUB; p1 moves to no like LINE.
        dueMoves(0, 0, 2, 0, 1, 2);
        dueBoard("b1-b3;e-p1;", 2);
        lines("1");
        dueMoves(0, 0, 1, 0, 1, 1);
    }

    private static void moveIsToAHubThatMayHaveMore() {
        fresh("A MOVE: .. that may have a WIRE more");
        cards(0, "1");
        dueBoard("c2-b1;c3-b2;e-p1;", 3);
        lines("1");
        // Each of two c ends has 19 others, each of two b ends only b3.
        due("moves", hall.moves(0), 19 + 1 + 19 + 1);
        due("move(19, 1)", hall.move(19, 1), 1);
        due("move(19, 2)", hall.move(19, 2), 2);
        dueBoard("c2-b1;c3-b2;c4-b3;e-p1;", 4);
        lines("1");
        due("no b has one more", hall.moves(0), 3 * 19);
        // Seven WIRES at t1, eight at t2, each with eleven other rc or rn; t3 - m may go to t1 alone.
        dueBoard(times("t1-rc1.1;", 7) + times("t2-rn1.2;", 8) + "t3-m;e-p1;", 17);
        lines("1");
        due("moves to t1 and t3", hall.moves(0), 7 * (1 + 11) + 8 * (2 + 11) + 1);
        dueBoard(times("t1-rc1.1;", 8) + times("t2-rn1.2;", 8) + "t3-m;e-p1;", 18);
        lines("1");
        due("moves to t3 alone", hall.moves(0), 8 * (1 + 11) + 8 * (1 + 11));
    }

    private static void moveIsOfTheSameWord() {
        fresh("A MOVE: .. at another HUB of the same word: e, m and halt have none");
        cards(0, "1");
        dueBoard("e-m;", 1);
        dueMoves();
        dueBoard("e-halt;", 1);
        dueMoves();
        dueBoard("e-s1;", 1);
        dueMoves(0, 1, 1, 0, 1, 2, 0, 1, 3);
        dueBoard("u1-u2;", 1);
        dueMoves(0, 0, 2, 0, 0, 3, 0, 1, 2, 0, 1, 3);
        dueBoard("m-rt1.1;", 1);
        due("rt has eleven others", hall.moves(0), 11);
        due("the first", hall.move(0, 2), 1);
        due("the last", hall.move(10, 2), 11);
        dueBoard("m-o4.6;", 1);
        due("o has 23 others", hall.moves(0), 23);
        due("the last", hall.move(22, 2), 22);
    }

    private static void moveToEachHubOfAWord() {
        String sentence = "A MOVE: .. at another HUB of the same word: as many as the word has";
        String[] words = {"c", "a", "x", "u", "t", "z", "plus", "minus", "clear", "p", "s", "ka", "kb", "b", "q"};
        int[] hubs = {20, 20, 20, 4, 3, 4, 4, 4, 4, 12, 4, 4, 4, 3, 20};
        fresh(sentence);
        for (int i = 0; i < words.length; i++) {
            dueOthers("e-" + words[i] + "1;", 1, hubs[i]);
            dueOthers(words[i] + hubs[i] + "-m;", 0, hubs[i]);
        }
        fresh(sentence);
        String[] dotted = {"o", "i", "rc", "rn", "rt"};
        int[] points = {24, 24, 12, 12, 12};
        for (int i = 0; i < dotted.length; i++) {
            dueOthers("e-" + dotted[i] + "1.1;", 1, points[i]);
            dueOthers(dotted[i] + "4." + points[i] / 4 + "-m;", 0, points[i]);
        }
    }

    /** MOVES of the only WIRE of a BOARD, for a BOX without CARDS: each of them would do. */
    private static void dueOthers(String text, int end, int hubs) {
        dueBoard(text, 1);
        due("moves of " + text, hall.moves(1), hubs - 1);
        due("the first HUB of " + text, hall.move(0, 2), end);
        due("the last HUB of " + text, hall.move(hubs - 2, 2), hubs - 2 + end);
        due("the end of " + text, hall.move(0, 1), end);
    }

    private static void movesOfThreeCards() {
        fresh("MOVES that would do: with which the RUN of a BOX's first 3 CARDS prints just told LINES");
        dueBoard("c1-p1;", 1);
        cards(0, "12", "13", "14", "15");
        lines("2", "3", "4");
        dueMoves(0, 0, 1);
        lines("2", "3", "4", "5");
        dueMoves();
        lines("2", "3");
        dueMoves();
        cards(0, "12", "13");
        lines("2", "3");
        dueMoves(0, 0, 1);
        lines("2", "3", "3");
        dueMoves();
        // The third CARD is the last, all TOTAL CYCLES come behind it.
        dueBoard("t1-p1;", 1);
        cards(0, "1", "1", "1", "1");
        lines(".1");
        due("moves", hall.moves(0), 1);
        lines("1");
        dueMoves(0, 0, 1, 0, 0, 2);
        hall.empty(0);
        lines("1");
        dueMoves();
        due("no CARDS, no LINES", hall.moves(0), 2 + 11);
    }

    private static void movesWhateverTheEnd() {
        fresh("MOVES that would do: with which the RUN .. prints just told LINES: whatever its END");
        cards(0, "12", "13", "14");
        dueBoard("c1-p1;t3-o1.1;", 2);
        lines("2", "3", "4");
        dueMoves(0, 0, 1);
        due("a JAM", hall.run(0, 7), 2);
        dueBoard("c1-p1;c1-s1;e-rc1.1;rt1.1-halt;", 4);
        lines("2");
        dueMoves(0, 0, 1);
        due("a halt", hall.run(0, 7), 1);
        dueBoard("c1-p1;e-rc1.1;t1-rc1.1;rc1.1-m;", 4);
        lines("2", "3", "4");
        dueMoves(0, 0, 1);
        due("all CARDS", hall.run(0, 7), 0);
    }

    private static void movesInOrder() {
        fresh("MOVES ..: by WIRES, ends, HUBS (by their numbers, as they follow one another in part 1)");
        cards(0, "1111");
        dueBoard("c5-p1;c6-p2;", 2);
        lines("1");
        dueMoves(0, 0, 0, 0, 0, 1, 0, 0, 2, 0, 0, 3);
        lines(".1");
        dueMoves(1, 0, 0, 1, 0, 1, 1, 0, 2, 1, 0, 3);
        dueBoard("t1-s1;c1-p1;", 2);
        lines("1");
        due("moves", hall.moves(0), 2 + 3 + 3);
        int[] want = {0, 0, 1, 0, 0, 2, 0, 1, 1, 0, 1, 2, 0, 1, 3, 1, 0, 1, 1, 0, 2, 1, 0, 3};
        for (int i = 0; i < want.length; i++) {
            due("move(" + i / 3 + ", " + i % 3 + ")", hall.move(i / 3, i % 3), want[i]);
        }
        fresh("MOVES ..: HUBS with a dot, by WHEELS or relays, then by digits or points");
        cards(0, "1");
        dueBoard("e-i2.2;e-plus4;e-p1;o4.6-q1;", 4);
        lines("1");
        due("moves", hall.moves(0), 23 + 3 + 23 + 19);
        due("i1.1", hall.move(0, 2), 0);
        due("i2.1", hall.move(6, 2), 6);
        due("i2.3", hall.move(7, 2), 8);
        due("i4.6", hall.move(22, 2), 23);
        due("plus1", hall.move(23, 2), 0);
        due("plus3", hall.move(25, 2), 2);
        due("o1.1", hall.move(26, 2), 0);
    }

    private static void movesOfLinesAsInMissing() {
        for (int b = 0; b < 256; b++) {
            if (b % 64 == 0) {
                fresh("moves(): the tape's bytes being LINES as in missing(); NONE: .. not as told");
                cards(0, "..7");
                dueBoard("m-c1;e-p1;", 2);
            }
            boolean fine = b <= 9 || b == 15;
            int[] last = columns("1", 12);
            last[11] = b;
            tape(last);
            due("a last byte " + b, hall.moves(0), fine ? b == 15 ? 19 : 0 : -1);
        }
        fresh("moves(): LINES of 12 bytes each");
        cards(0, "12");
        dueBoard("c1-p1;", 1);
        lines("2");
        dueMoves(0, 0, 1);
        for (int n : new int[] {1, 11, 13, 740}) {
            tape(columns("2", n));
            due(n + " bytes", hall.moves(0), -1);
            due("the tape is empty", hall.count(2), 0);
            due("move(0, 2) stays", hall.move(0, 2), 1);
        }
        due("no bytes", hall.moves(0), 18);
        lines(copies("2", 61));
        due("61 LINES", hall.moves(0), 0);
    }

    private static void movesOfNoBox() {
        fresh("moves(): NONE: no such one");
        cards(0, "12");
        cards(7, "13");
        dueBoard("c1-p1;", 1);
        lines("2");
        dueMoves(0, 0, 1);
        for (int box : NO_BOXES) {
            lines("3");
            due("moves(" + box + ")", hall.moves(box), -1);
            due("the tape is empty", hall.count(2), 0);
            due("move(0, 2) stays", hall.move(0, 2), 1);
        }
        lines("3");
        due("moves(7)", hall.moves(7), 1);
    }

    private static void moveBelowAHundred() {
        fresh("move(): Of the k-th (below 100)");
        cards(0, "");
        dueBoard("c1-m;c2-b1;c3-b2;c4-b3;c5-s1;", 5);
        // 19 for each c, 3 for s.
        due("moves", hall.moves(0), 98);
        due("move(97, 2)", hall.move(97, 2), 3);
        due("move(98, 2)", hall.move(98, 2), -1);
        dueBoard("c1-m;c2-b1;c3-b2;c4-b3;c5-s1;e-s2;", 6);
        due("moves", hall.moves(0), 19 * 5 + 2 + 2);
        due("move(98, 2)", hall.move(98, 2), 3);
        due("move(99, 2)", hall.move(99, 2), -1);
        dueBoard("c1-m;c2-b1;c3-b2;c4-b3;c5-s1;e-s2;t1-rc1.1;", 7);
        due("moves", hall.moves(0), 99 + 2 + 11);
        due("move(99, 0)", hall.move(99, 0), 6);
        due("move(99, 1)", hall.move(99, 1), 0);
        due("move(99, 2)", hall.move(99, 2), 1);
        for (int what = 0; what < 3; what++) {
            due("move(100, " + what + ")", hall.move(100, what), -1);
        }
    }

    private static void moveThereIs() {
        fresh("move(): NONE: there is none such, another what, or ahead of any");
        for (int k = -1; k <= 1; k++) {
            due("move(" + k + ", 0)", hall.move(k, 0), -1);
        }
        due("a NONE", hall.moves(8), -1);
        due("move(0, 0)", hall.move(0, 0), -1);
        cards(0, "12");
        dueBoard("e-p2;c1-p1;", 2);
        lines("21");
        dueMoves(1, 0, 1);
        for (int k : new int[] {-1, 1, 99, 100, Integer.MIN_VALUE, Integer.MAX_VALUE}) {
            due("move(" + k + ", 0)", hall.move(k, 0), -1);
        }
        for (int what : new int[] {-1, 3, 4, Integer.MIN_VALUE, Integer.MAX_VALUE}) {
            due("move(0, " + what + ")", hall.move(0, what), -1);
        }
        hall.empty(0);
        dueBoard("", 0);
        due("move(0, 0) stays", hall.move(0, 0), 1);
    }
}
