/** The promises one by one: ordinary inputs, the edges that the document names, and wrong inputs. */
public final class PromiseTest extends Desk {
    public static void main(String[] args) {
        newObject();
        feedAndEnd();
        cardsAndBoxes();
        boardTokens();
        boardNumbersAndHubs();
        boardLimits();
        runBasics();
        runNets();
        runJams();
        runWheels();
        runTotals();
        runEnds();
        passes();
        idle();
        missing();
        tests();
        jobTexts();
        jobRuns();
        jobBoards();
        jobLines();
        needed();
        unseen();
        moves();
        shelf();
        apartLikeWires();
        friday();
        fridayLikeWires();
        count();
        tell();
    }

    private static void newObject() {
        fresh(1);
        for (int b = 0; b < 8; b++) {
            due("cards", hall.cards(b), 0);
        }
        due("NONE", PlugHall.NONE, -1);
        due("count(0)", hall.count(0), 0);
        due("count(1)", hall.count(1), 0);
        due("count(2)", hall.count(2), 0);
        due("fault", hall.fault(), 0);
        for (int what = 0; what <= 6; what++) {
            due("ran", hall.ran(what), -1);
        }
        dueThrow("bar", () -> hall.bar(0, 1));
        dueThrow("wheel", () -> hall.wheel(1));
        dueThrow("wantedAt", () -> hall.wantedAt(0, 1));
        due("wire", hall.wire(0), -1);
        due("testSet", hall.testSet(), 0);
        due("shown", hall.shown(), 0);
        due("runs", hall.runs(), 0);
        due("wants", hall.wants(0), -1);
        due("make", hall.make(0), -1);
        due("same", hall.same(0, 0), -1);
        due("neededSet", hall.neededSet(), 0);
        due("unseenAt", hall.unseenAt(0), -1);
        due("move", hall.move(0, 0), -1);
        due("use", hall.use(0), -1);
        due("apart", hall.apart(0, 0), -1);
        due("fridayAt", hall.fridayAt(0), -1);
    }

    private static void feedAndEnd() {
        fresh(2);
        for (int i = 1; i <= 37; i++) {
            due("feed", hall.feed(0, 0, 0, 0, 0), 20 * i);
        }
        due("feed of a full tape", hall.feed(1, 1, 1, 1, 1), -1);
        due("count(2)", hall.count(2), 740);
        hall.end(721);
        due("feed that would go too far", hall.feed(1, 1, 1, 1, 1), -1);
        hall.end(720);
        due("feed that fits", hall.feed(1, 1, 1, 1, 1), 740);
        hall.end(0);
        hall.feed(0x00010203, 0x04050607, 0x08090f10, 0x11121314, 0x1516171f);
        due("card", hall.card(0), 1);
        int[] due = {0, 1, 2, 3, 4, 5, 6, 7, 8, 9, 15, 16, 17, 18, 19, 20, 21, 22, 23, 31};
        for (int n = 1; n <= 20; n++) {
            due("column " + n, hall.column(0, 0, n), due[n - 1]);
        }
        hall.feed(0, 0, 0, 0, 0x80000000);
        due("a high byte is no digit", hall.card(0), -1);
        fresh(3);
        due("end(1) of an empty tape", hall.end(1), false);
        due("end(0) of an empty tape", hall.end(0), true);
        hall.feed(0, 0, 0, 0, 0);
        due("end(-1)", hall.end(-1), false);
        due("end(21)", hall.end(21), false);
        due("end(20)", hall.end(20), true);
        due("end(7)", hall.end(7), true);
        due("count(2)", hall.count(2), 7);
        due("end(8)", hall.end(8), false);
        due("feed", hall.feed(0, 0, 0, 0, 0), 27);
    }

    private static void cardsAndBoxes() {
        fresh(4);
        due("card", card(0, "0123456789.ABCDEFGHI"), 1);
        due("card", card(0, "J_"), 2);
        due("card of no box", card(-1, "1"), -1);
        due("card of no box", card(8, "1"), -1);
        due("the tape is empty", hall.count(2), 0);
        for (int bad : new int[] {10, 14, 26, 30, 32, 128, 255}) {
            int[] b = columns("", 20);
            b[19] = bad;
            tape(b);
            due("card with " + bad, hall.card(0), -1);
            due("the tape is empty", hall.count(2), 0);
        }
        tape(columns(":", 20));
        due("the first byte", hall.card(0), -1);
        tape(columns("", 19));
        due("19 bytes", hall.card(0), -1);
        tape(columns("", 21));
        due("21 bytes", hall.card(0), -1);
        due("no bytes", hall.card(0), -1);
        for (int k = 3; k <= 40; k++) {
            due("card", card(0, "1"), k);
        }
        due("a 41st card", card(0, "1"), -1);
        goOn(5);
        due("cards(0)", hall.cards(0), 40);
        due("cards(1)", hall.cards(1), 0);
        due("cards(-1)", hall.cards(-1), -1);
        due("cards(8)", hall.cards(8), -1);
        goOn(6);
        due("column", hall.column(0, 0, 10), 9);
        due("column", hall.column(0, 0, 11), 15);
        due("column", hall.column(0, 0, 12), 16);
        due("column", hall.column(0, 1, 1), 25);
        due("column", hall.column(0, 1, 2), 31);
        dueThrow("column(-1, ..)", () -> hall.column(-1, 0, 1));
        dueThrow("column(8, ..)", () -> hall.column(8, 0, 1));
        dueThrow("k -1", () -> hall.column(0, -1, 1));
        dueThrow("k 40", () -> hall.column(0, 40, 1));
        dueThrow("n 0", () -> hall.column(0, 0, 0));
        dueThrow("n 21", () -> hall.column(0, 0, 21));
        dueThrow("of an empty box", () -> hall.column(1, 0, 1));
        goOn(7);
        tape(1, 2, 3);
        due("empty(-1)", hall.empty(-1), -1);
        due("empty(8)", hall.empty(8), -1);
        due("empty(0)", hall.empty(0), 40);
        due("empty(0) again", hall.empty(0), 0);
        due("cards(0)", hall.cards(0), 0);
        due("the tape stays", hall.count(2), 3);
        hall.end(0);
        due("card goes in", card(0, "5"), 1);
        due("column", hall.column(0, 0, 1), 5);
    }

    private static void boardTokens() {
        fresh(8);
        due("no bytes", board(""), 0);
        due("blanks", board(" \n "), 0);
        due("blanks between", board(" c \n 1 - p 2 ;\n"), 1);
        due("no blanks", board("c1-p2;o1.1-p3;"), 2);
        due("leading zeros", board("c01-p02;"), 1);
        due("count(0)", hall.count(0), 1);
        goOn(9);
        due("fault", hall.fault(), 0);
        fault("c1", 1, 2);
        fault("c1  \n", 1, 5);
        fault("c", 1, 1);
        fault("c1-", 1, 3);
        fault("c1-e", 1, 4);
        fault("o1", 1, 2);
        fault("o1.", 1, 3);
        due("the board stays", hall.count(0), 1);
        fault("c\t1-e;", 1, 1);
        fault("c1-E;", 1, 3);
        fault("c1-\u00e9;", 1, 3);
        fault("c1+e;", 1, 2);
        fault("1-e;", 1, 0);
        fault(";", 1, 0);
        fault("-", 1, 0);
        fault("c1;e;", 1, 2);
        fault("c1--e;", 1, 3);
        fault("c1-e.", 1, 4);
        fault("c1.1-e;", 1, 2);
        fault("o1-e;", 1, 2);
        fault("o1 1-e;", 1, 3);
        fault("rc1-e;", 1, 3);
        fault("e1-p1;", 1, 1);
        fault("m1-e;", 1, 1);
        fault("halt1-e;", 1, 4);
        fault("c1 2-e;", 1, 3);
        fault("c100-e;", 1, 1);
        fault("c001-e;", 1, 1);
        fault("minusa1-e;", 1, 0);
        fault("minu1-e;", 1, 0);
        fault("cc1-e;", 1, 0);
        fault("ce-p1;", 1, 0);
        fault("y1-e;", 1, 0);
        fault("r1.1-e;", 1, 0);
        fault("k1-e;", 1, 0);
        fault("pl us1-e;", 1, 0);
        due("a good one", board("e-plus1;"), 1);
        due("fault", hall.fault(), 0);
    }

    private static void boardNumbersAndHubs() {
        fresh(8);
        String[] words = {"c", "a", "x", "u", "t", "z", "plus", "minus", "clear", "p", "s", "ka", "kb", "b", "q"};
        int[] tops = {20, 20, 20, 4, 3, 4, 4, 4, 4, 12, 4, 4, 4, 3, 20};
        for (int i = 0; i < words.length; i++) {
            String w = words[i];
            due(w + " least", board(w + "1-e;"), 1);
            due(w + " greatest", board(w + tops[i] + "-e;"), 1);
            fault(w + "0-e;", 2, w.length());
            fault(w + (tops[i] + 1) + "-e;", 2, w.length());
            fault("e-" + w + "99;", 2, w.length() + 2);
        }
        String[] dotted = {"o", "i", "rc", "rn", "rt"};
        int[] behind = {6, 6, 3, 3, 3};
        for (int i = 0; i < dotted.length; i++) {
            String w = dotted[i];
            int l = w.length();
            due(w + " greatest", board(w + "4." + behind[i] + "-e;" + w + "1.1-e;"), 2);
            fault(w + "0.1-e;", 2, l);
            fault(w + "5.1-e;", 2, l);
            fault(w + "5.9-e;", 2, l);
            fault(w + "4.0-e;", 2, l + 2);
            fault(w + "4." + (behind[i] + 1) + "-e;", 2, l + 2);
        }
        due("m and halt", board("e-m;e-halt;"), 2);
        goOn(9);
        fault("e-e;", 3, 2);
        fault("o1.2 - o1.2;", 3, 7);
        fault("p1-p1;", 3, 3);
        due("two digits of a wheel", board("o1.2-o1.1;"), 1);
        fault("e-p1;c1-p1;", 3, 8);
        fault("e-p1;p1-c1;", 3, 5);
        fault("e-m;c1-m;", 3, 7);
        fault("e-i1.1;c1-i1.1;", 3, 10);
        fault("e-halt;c1-halt;", 3, 10);
        due("z4 has more than one", board("z4-p1;z4-p2;"), 2);
        due("rc1.1 has more than one", board("rc1.1-p1;rc1.1-p2;"), 2);
        fault("e-p1;p1", 3, 5);
        fault("e-p1;p1-foo;", 3, 5);
        due("eight wires", board("e-p1;e-p2;e-p3;e-p4;e-p5;e-p6;e-p7;e-p8;"), 8);
        fault("e-p1;e-p2;e-p3;e-p4;e-p5;e-p6;e-p7;e-p8;e-p9;", 3, 40);
        fault("e-p1;e-p2;e-p3;e-p4;e-p5;e-p6;e-p7;p8-e;p9 - e;", 3, 45);
        fault("e-p1;e-p2;e-p3;e-p4;e-p5;e-p6;e-p7;e-p8;e-e;", 3, 40);
        due("a point has eight", board(times("c1-rc1.1;", 8)), 8);
        fault(times("c1-rc1.1;", 9), 3, 72);
        fault(times("rn1.1-rc1.1;", 8).concat("rt1.1-rc1.1;"), 3, 102);
        fault("e-p1;c1-p1;c99", 3, 8);
        fault("e-p1;c99-p1;", 2, 6);
    }

    private static void boardLimits() {
        fresh(9);
        due("60 wires", board(wires(60)), 60);
        int end = wires(60).length();
        fault(wires(61), 4, end);
        fault(wires(60) + "c99", 4, end);
        fault(wires(60) + "c", 4, end);
        fault(wires(60) + "c.", 4, end);
        fault(wires(60) + "  foo-e;", 1, end + 2);
        fault(wires(60) + ";", 1, end);
        fault(wires(60) + "toolong", 1, end);
        fault(wires(60) + "q1-e", 4, end);
        fault("e-q1;" + wires(59) + "q1-e;", 4, 5 + wires(59).length());
        fresh(9);
        due("700 bytes", board(times(" ", 695) + "c1-e;"), 1);
        due("700 blanks", board(times(" ", 700)), 0);
        fault(times(" ", 701), 1, 700);
        fault(times(" ", 740), 1, 700);
        fault(times(" ", 695) + "c1-e; ", 1, 700);
        fault(times(" ", 696) + "c1-e;", 1, 700);
        fault(times(" ", 698) + "c12-e;", 1, 700);
        fault(times(" ", 699) + "c1-e;", 1, 700);
        fault(times(" ", 698) + "c21-e;", 2, 699);
        fault(times(" ", 698) + "c100-e;", 1, 699);
        fresh(9);
        fault(times(" ", 697) + "minus1-e;", 1, 700);
        fault(times(" ", 697) + "minusx-e;", 1, 697);
        fault(times(" ", 699) + "foo-e;", 1, 699);
        fault("e-p1;" + times(" ", 692) + "c1-p1;", 1, 700);
        fault("e-p1;" + times(" ", 690) + "c1-p1;", 3, 698);
        fault("e-p1;" + times(" ", 691) + "c1-p1 ;", 1, 700);
        fault("e-p1;" + times(" ", 693) + "p1-e;", 3, 698);
        fault("e-p1;" + times(" ", 694) + "p1-e;", 1, 700);
        fault("f" + times(" ", 720), 1, 0);
        fault("e-p1" + times(" ", 720), 1, 700);
        fault("e-p1" + times(" ", 696), 1, 700);
        fault("e-p1" + times(" ", 695), 1, 699);
    }

    private static void runBasics() {
        fresh(10);
        due("no box", hall.run(-1, 0), -1);
        due("no box", hall.run(0, 8), -1);
        due("one box", hall.run(3, 3), -1);
        due("ran stays", hall.ran(0), -1);
        due("no cards", hall.run(0, 1), 0);
        goOn(11);
        for (int what = 0; what <= 4; what++) {
            due("ran(" + what + ")", hall.ran(what), 0);
        }
        due("ran(5)", hall.ran(5), -1);
        due("ran(6)", hall.ran(6), -1);
        due("ran(-1)", hall.ran(-1), -1);
        due("ran(7)", hall.ran(7), -1);
        goOn(10);
        cards(0, "12345", "6.C");
        due("END", runOf("c1-p1;c2-p12;x3-p3;a1-p2;e-p4;"), 0);
        dueLines("16.1.......2", "6.11");
        due("card cycles", hall.ran(0), 2);
        due("total cycles", hall.ran(1), 3);
        due("a NONE changes nothing", hall.run(9, 1), -1);
        due("card cycles", hall.ran(0), 2);
        goOn(12);
        dueThrow("bar(-1, 1)", () -> hall.bar(-1, 1));
        dueThrow("bar(2, 1)", () -> hall.bar(2, 1));
        dueThrow("bar(0, 0)", () -> hall.bar(0, 0));
        dueThrow("bar(0, 13)", () -> hall.bar(0, 13));
        goOn(10);
        due("a line only where a bar takes", runOf("c2-p1;"), 0);
        dueLines("2");
        due("wires either way round", runOf("p1-c1;"), 0);
        dueLines("1", "6");
        due("takers without a giver", runOf("p1-p2;"), 0);
        dueLines();
        due("takers on one net", runOf("c1-p1;c1-p2;c1-p3;"), 0);
        dueLines("111", "666");
        due("a digit 0 is something", card(0, "0"), 3);
        due("a digit 0 is something", runOf("c1-p1;"), 0);
        dueLines("1", "6", "0");
    }

    private static void runNets() {
        fresh(10);
        cards(0, "12E", "345");
        due("a relay, picked and not", runOf("x3-s1;c1-rc1.1;rn1.1-p1;rt1.1-p2;"), 0);
        dueLines(".1", "3");
        due("points join either way", runOf("x3-s2;c1-rt2.3;c2-rn2.3;rc2.3-p1;"), 0);
        dueLines("1", "4");
        due("three points of one relay", runOf("x3-s1;c1-rc1.1;rt1.1-p1;c2-rc1.2;rt1.2-p2;c3-rc1.3;rt1.3-p3;"), 0);
        dueLines("124");
        due("other relays are not picked", runOf("x3-s1;c1-rc2.1;rn2.1-p1;rt2.1-p2;"), 0);
        dueLines("1", "3");
        due("coils take with no relay picked", runOf("x3-s1;e-rc1.1;rt1.1-s2;rn1.1-s3;c1-rc2.1;rt2.1-p1;"
            .concat("c2-rc3.1;rt3.1-p2;")), 0);
        dueLines(".2", ".4");
        due("also where two give", runOf("c1-rc1.1;c2-rc1.1;rn1.1-s1;c3-rc1.2;rt1.2-p1;"), 2);
        due("relays hold for a cycle alone", runOf("x3-s1;t1-rc1.1;rn1.1-p1;rt1.1-p2;"), 0);
        dueLines("1");
        due("a relay picked in a total cycle", runOf("t2-s4;o1.1-rc4.1;rt4.1-p1;e-i1.1;e-plus1;"), 0);
        dueLines("2");
        due("through two relays", runOf("x3-s1;x3-s2;c1-rc1.1;rt1.1-rc2.1;rt2.1-p1;rn2.1-p2;"), 0);
        dueLines("1");
        due("nets that a later wire joins", runOf("c1-rc1.1;rc2.1-p1;rc3.1-p2;rc4.1-p3;rc4.1-rc3.1;rc2.1-rc3.1;"
            .concat("rc1.1-rc4.1;")), 0);
        dueLines("111", "333");
        due("nets that relays join", runOf("rc1.1-p1;rn2.1-rt1.1;x3-s1;rc2.1-rt3.1;c1-rc3.1;c2-s3;"), 0);
        dueLines("1");
        fresh(10);
        cards(0, "11", "12", "1", ".1", "..");
        due("a comparer", runOf("c1-ka1;c2-kb1;u1-p1;"), 0);
        dueLines("1", "1", "1");
        due("the next card", runOf("c1-ka4;a1-kb4;u4-p1;c2-p2;"), 0);
        dueLines(".1", ".2", "1", ".1");
        due("no ka, kb alike", runOf("u2-p1;"), 0);
        dueLines();
        due("ka alone", runOf("e-ka3;u3-p1;"), 0);
        dueLines("1", "1", "1", "1", "1");
        due("no u in total cycles", runOf("t1-ka1;u1-p1;"), 0);
        dueLines();
        due("u picks no relay", runOf("e-ka1;u1-s1;e-rc1.1;rt1.1-p1;rn1.1-p2;"), 0);
        dueLines(".1", ".1", ".1", ".1", ".1");
        due("ka behind a relay picked", runOf("c2-s1;c1-rc1.1;rt1.1-ka1;u1-p1;"), 0);
        dueLines("1", "1");
        due("comparers see no u", runOf("e-ka1;u1-rc1.1;rn1.1-ka2;u2-p1;"), 0);
        dueLines();
    }

    private static void runJams() {
        fresh(11);
        cards(0, "1", "12", "123");
        due("a jam", runOf("c1-p1;c2-rc1.1;c1-rc1.1;"), 2);
        due("the cycle is not counted", hall.ran(0), 1);
        due("no totals", hall.ran(1), 0);
        dueLines("1");
        due("ran(5)", hall.ran(5), 0);
        due("ran(6)", hall.ran(6), 1);
        due("a jam without a taker", runOf("c3-c2;"), 2);
        due("ran(5)", hall.ran(5), 1);
        due("ran(6)", hall.ran(6), 2);
        due("card cycles", hall.ran(0), 2);
        due("the two least of three", runOf("c3-rc1.1;c2-rc1.1;c1-rc1.1;"), 2);
        due("ran(5)", hall.ran(5), 0);
        due("ran(6)", hall.ran(6), 1);
        cards(0, "123");
        due("the net with the least", runOf("c2-c3;e-c1;"), 2);
        due("ran(5)", hall.ran(5), 0);
        due("ran(6)", hall.ran(6), 60);
        due("u and e", runOf("e-ka1;u1-e;"), 2);
        due("ran(5)", hall.ran(5), 60);
        due("ran(6)", hall.ran(6), 61);
        due("no jam where relays part them", runOf("e-s1;c1-rn1.1;c2-rt1.1;rc1.1-p1;"), 0);
        dueLines("2");
        due("totals jam", runOf("c1-p1;t2-o4.6;e-plus1;e-i1.1;t1-minus2;t1-i2.1;"), 2);
        due("card cycles", hall.ran(0), 1);
        due("total cycles", hall.ran(1), 1);
        due("ran(5)", hall.ran(5), 66);
        due("ran(6)", hall.ran(6), 91);
        dueWheels(1, -1, 0, 0);
        due("no card, no total giver", runOf("e-t1;c1-o1.1;"), 0);
        due("ran(5)", hall.ran(5), -1);
        due("z", runOf("e-minus1;e-i1.1;z1-t1;"), 2);
        due("ran(5)", hall.ran(5), 65);
        due("ran(6)", hall.ran(6), 92);
        due("ka takes what the first gives", runOf("c1-rc1.1;c2-rc1.1;rn1.1-ka1;c1-kb1;u1-x1;e-rc4.1;u1-rc4.1;"), 2);
        due("ran(5)", hall.ran(5), 0);
        due("punched ahead of a jam", hall.cards(7), 0);
        cards(0, "1", "12");
        due("cards punched ahead of a jam", runOf("e-m;c1-q1;c1-c2;"), 2);
        due("punched", hall.ran(3), 1);
        due("cards(7)", hall.cards(7), 1);
        due("column", hall.column(7, 0, 1), 1);
    }

    private static void runWheels() {
        fresh(13);
        cards(0, "123456", ".2.4.6");
        String digits = "c6-i1.1;c5-i1.2;c4-i1.3;c3-i1.4;c2-i1.5;c1-i1.6;";
        due("plus", runOf(digits + "e-plus1;"), 0);
        dueWheels(143862, 0, 0, 0);
        due("minus", runOf(digits + "e-minus1;"), 0);
        dueWheels(-143862, 0, 0, 0);
        due("both", runOf(digits + "e-minus1;e-plus1;"), 0);
        dueWheels(0, 0, 0, 0);
        due("neither", runOf(digits), 0);
        dueWheels(0, 0, 0, 0);
        due("clear behind the sum", runOf("e-i4.1;e-plus4;x1-clear4;e-clear3;"), 0);
        dueWheels(0, 0, 0, 2);
        due("clear", runOf("e-i4.1;e-plus4;e-clear4;"), 0);
        dueWheels(0, 0, 0, 0);
        due("digits without sign, and the sign", runOf("c6-i1.1;c1-i1.2;e-minus1;o1.1-p1;o1.2-p2;o1.3-p3;z1-p4;"), 0);
        dueWheels(-22, 0, 0, 0);
        dueLines("2201", "2201", "2201");
        due("z of 0", runOf("z1-p1;o1.1-p2;"), 0);
        dueLines(".0", ".0", ".0");
        due("sums in total cycles", runOf("e-i1.1;e-plus1;o1.1-i2.1;t1-plus2;t3-minus2;"), 0);
        dueWheels(2, 0, 0, 0);
        dueThrow("wheel(0)", () -> hall.wheel(0));
        dueThrow("wheel(5)", () -> hall.wheel(5));
        goOn(11);
        cards(0, "9", "9", "1");
        due("runs over", runOf("c1-i1.6;e-plus1;c1-i2.6;e-minus2;"), 0);
        dueWheels(900000, -900000, 0, 0);
        due("ran(4)", hall.ran(4), 2);
        cards(0, "9", "1");
        due("just a turn", runOf("c1-i1.6;e-plus1;c1-i2.6;e-minus2;"), 0);
        dueWheels(0, 0, 0, 0);
        due("ran(4)", hall.ran(4), 2);
        cards(0, "999999", "000000");
        due("not yet over", runOf(digits + "e-plus1;"), 0);
        dueWheels(999999, 0, 0, 0);
        due("ran(4)", hall.ran(4), 0);
    }

    private static void runTotals() {
        fresh(10);
        cards(0, "11", "12", "23", "23");
        String counting = "c1-ka1;a1-kb1;u1-b1;e-i1.1;e-plus1;o1.1-p1;t1-clear1;";
        due("orders", runOf(counting), 0);
        due("total cycles", hall.ran(1), 4);
        dueLines("2", "2", "0", "0");
        due("the greatest order", runOf("c1-ka1;a1-kb1;u1-b2;t1-p1;t2-p2;t3-p3;"), 0);
        due("total cycles", hall.ran(1), 5);
        dueLines("1", ".1", "1", ".1", "..1");
        due("two orders at once", runOf("e-b1;e-b3;t1-p1;t2-p2;t3-p3;"), 0);
        due("total cycles", hall.ran(1), 12);
        due("b in total cycles is of no matter", runOf("t1-b3;"), 0);
        due("total cycles", hall.ran(1), 3);
        due("halt in total cycles is of no matter", runOf("t1-halt;e-b1;"), 0);
        due("card cycles", hall.ran(0), 4);
        due("total cycles", hall.ran(1), 6);
    }

    private static void runEnds() {
        fresh(10);
        cards(0, "1", "C", "1C", "1");
        due("halt", runOf("x2-halt;e-p1;a1-p2;t3-p3;"), 1);
        due("card cycles", hall.ran(0), 3);
        due("total cycles", hall.ran(1), 3);
        dueLines("12", "11", "11", "..1");
        due("halt behind the last card", runOf("a1-s1;e-rc1.1;rn1.1-halt;"), 1);
        due("card cycles", hall.ran(0), 4);
        cards(0, "1", "1");
        due("halt behind the last card", runOf("a1-s1;e-rc1.1;rn1.1-halt;"), 1);
        due("card cycles", hall.ran(0), 2);
        due("a jam in halt's totals", runOf("e-halt;t1-o1.1;"), 2);
        due("card cycles", hall.ran(0), 1);
        hall.empty(0);
        for (int k = 0; k < 40; k++) {
            card(0, "7");
        }
        due("a 61st line", runOf("e-p1;e-b1;t1-p2;e-plus1;e-i1.1;e-m;"), 3);
        due("lines", hall.ran(2), 60);
        due("card cycles", hall.ran(0), 30);
        due("total cycles", hall.ran(1), 30);
        dueWheels(30, 0, 0, 0);
        due("punched", hall.ran(3), 30);
        due("cards(7)", hall.cards(7), 30);
        dueLine(59, ".1");
        due("just 60 lines", runOf("e-p1;t1-s1;"), 0);
        due("the box is full", runOf("e-m;c1-q20;e-plus1;e-i1.1;e-p1;c1-i2.6;e-plus2;e-halt;".replace("e-halt;", "")), 3);
        due("lines", hall.ran(2), 11);
        due("card cycles", hall.ran(0), 10);
        due("punched", hall.ran(3), 10);
        dueWheels(11, 700000, 0, 0);
        due("a wheel ran over in the cycle that ended", hall.ran(4), 7);
        due("cards(7)", hall.cards(7), 40);
        due("column", hall.column(7, 39, 20), 7);
        due("column", hall.column(7, 39, 1), 15);
        due("none fits", runOf("e-m;x1-halt;"), 3);
        due("card cycles", hall.ran(0), 0);
        hall.empty(7);
        due("all fit", runOf("e-m;x1-q1;c1-q2;"), 0);
        due("punched", hall.ran(3), 40);
        due("not punched over", hall.column(7, 0, 2), 7);
        hall.empty(7);
        cards(0, "4_6J");
        due("punched without over", runOf("e-m;c1-q1;c2-q2;c3-q3;c4-q4;x4-q5;"), 0);
        due("column", hall.column(7, 0, 1), 4);
        due("column", hall.column(7, 0, 2), 15);
        due("column", hall.column(7, 0, 3), 6);
        due("column", hall.column(7, 0, 4), 9);
        due("column", hall.column(7, 0, 5), 1);
        due("they go behind", runOf("t1-m;t1-q1;t3-m;".replace("t3-m;", "")), 0);
        due("cards(7)", hall.cards(7), 2);
        due("column", hall.column(7, 1, 1), 1);
        due("the box that is read stays", hall.cards(0), 1);
    }

    private static void passes() {
        fresh(14);
        cards(0, "31", "12", "J3", ".4", "_5", "16", "D7", "08", "A9");
        due("pass", hall.pass(0, 1), true);
        int[] due = {4, 5, 8, 9, 2, 6, 1, 7, 3};
        for (int k = 0; k < 9; k++) {
            due("column(0, " + k + ", 2)", hall.column(0, k, 2), due[k]);
        }
        due("over stays", hall.column(0, 1, 1), 31);
        due("no box", hall.pass(-1, 1), false);
        due("no box", hall.pass(8, 1), false);
        due("no column", hall.pass(0, 0), false);
        due("no column", hall.pass(0, 21), false);
        due("no cards", hall.pass(1, 20), true);
        due("all blank", hall.pass(0, 20), true);
        due("as they were", hall.column(0, 8, 2), 3);
        hall.empty(0);
        card(0, "9");
        card(0, "8");
        due("new cards behind a pass", hall.column(0, 0, 1), 9);
        due("new cards behind a pass", hall.column(0, 1, 1), 8);
    }

    private static void idle() {
        fresh(15);
        due("no box", hall.idle(-1), -1);
        due("no box", hall.idle(8), -1);
        due("no wires", hall.idle(0), 0);
        board("c1-p1;x1-p2;e-plus1;c2-i1.1;e-plus2;e-m;c3-q1;c4-q2;e-ka1;");
        due("no cards", hall.idle(0), 9);
        goOn(17);
        for (int k = 0; k < 9; k++) {
            due("wire(" + k + ")", hall.wire(k), k);
        }
        due("wire(9)", hall.wire(9), -1);
        due("wire(-1)", hall.wire(-1), -1);
        goOn(15);
        cards(0, "123");
        hall.run(0, 7);
        due("idle", hall.idle(0), 4);
        due("wire(0)", hall.wire(0), 1);
        due("wire(1)", hall.wire(1), 4);
        due("wire(2)", hall.wire(2), 7);
        due("wire(3)", hall.wire(3), 8);
        due("a NONE changes nothing", hall.idle(8), -1);
        due("wire(0)", hall.wire(0), 1);
        due("nothing was punched", hall.cards(7), 1);
        due("the latest run stays", hall.ran(0), 1);
        board("c1-rc1.1;c1-rc1.1;rn1.1-p1;");
        due("a wire told twice", hall.idle(0), 2);
        board("c1-c2;c3-p1;x1-halt;");
        due("a jam is a jam", hall.idle(0), 2);
        due("wire(0)", hall.wire(0), 1);
        cards(0, "1", "1");
        board("e-halt;");
        due("END tells", hall.idle(0), 0);
        due("the latest run stays", hall.ran(0), 1);
        hall.empty(0);
        for (int k = 0; k < 40; k++) {
            card(0, "7");
        }
        hall.run(0, 7);
        board("e-m;t1-rc1.1;rn1.1-b1;");
        due("40 cards fit into an empty box", hall.idle(0), 2);
        due("wire(0)", hall.wire(0), 1);
    }

    private static void missing() {
        fresh(16);
        cards(0, "12", "34");
        board("c1-p1;c2-p2;e-plus1;");
        lines("1.", "3.");
        due("missing", hall.missing(0), 1);
        due("wire(0)", hall.wire(0), 1);
        due("wire(1)", hall.wire(1), -1);
        due("the tape is empty", hall.count(2), 0);
        lines("12", "34");
        due("missing", hall.missing(0), 1);
        due("wire(0)", hall.wire(0), 2);
        lines("1.");
        due("one line too few", hall.missing(0), 0);
        due("wire(0)", hall.wire(0), -1);
        lines("1.", "3.", "3.");
        due("one line too many", hall.missing(0), 0);
        due("no lines", hall.missing(0), 0);
        due("no lines of no cards", hall.missing(1), 3);
        due("wire(2)", hall.wire(2), 2);
        tape(1);
        due("one byte", hall.missing(0), -1);
        due("the tape is empty", hall.count(2), 0);
        tape(columns("", 11));
        due("11 bytes", hall.missing(0), -1);
        tape(columns("", 13));
        due("13 bytes", hall.missing(0), -1);
        tape(columns("A", 12));
        due("a byte 16", hall.missing(0), -1);
        tape(columns(":", 12));
        due("a byte 10", hall.missing(0), -1);
        lines("1.", "3.");
        due("no box", hall.missing(8), -1);
        due("the tape is empty", hall.count(2), 0);
        due("no box", hall.missing(-1), -1);
        due("a NONE changes nothing", hall.wire(2), 2);
        board("c1-p1;c1-c2;e-halt;");
        lines("1");
        due("whatever the END", hall.missing(0), 1);
        due("wire(0)", hall.wire(0), 1);
        due("no lines by a jam", hall.missing(0), 2);
        due("wire(0)", hall.wire(0), 0);
        due("wire(1)", hall.wire(1), 2);
        String[] all = new String[61];
        java.util.Arrays.fill(all, "1");
        lines(all);
        due("61 lines", hall.missing(0), 0);
    }

    private static void tests() {
        fresh(18);
        due("no box", hall.tests(-1), -1);
        due("no box", hall.tests(8), -1);
        board("c1-p1;c2-p2;c3-p3;x1-p4;");
        due("no cards", hall.tests(0), 0);
        due("testSet", hall.testSet(), 0);
        due("shown", hall.shown(), 0);
        cards(0, "1", ".1", "..1", "1.1", "11");
        due("tests", hall.tests(0), 2);
        goOn(19);
        due("testSet", hall.testSet(), 2 + 8);
        goOn(20);
        due("shown", hall.shown(), 3);
        due("a NONE changes nothing", hall.tests(8), -1);
        due("testSet", hall.testSet(), 2 + 8);
        due("shown", hall.shown(), 3);
        cards(1, "1", "1", "1", "1", "1", "1", "1", "1", "1", ".1", "..1");
        due("the first ten alone", hall.tests(1), 2);
        due("testSet", hall.testSet(), 1 + 512);
        due("shown", hall.shown(), 2);
        cards(2, "1", "A", "A1");
        due("one card shows all", hall.tests(2), 1);
        due("testSet", hall.testSet(), 4);
        due("shown", hall.shown(), 3);
        board("x1-q1;c1-ka1;");
        due("nothing is shown", hall.tests(1), 0);
        due("testSet", hall.testSet(), 0);
        due("shown", hall.shown(), 0);
        board("a1-p1;c1-ka1;a1-kb1;u1-p2;");
        due("each card alone", hall.tests(1), 1);
        due("testSet", hall.testSet(), 1);
        due("shown", hall.shown(), 2);
    }

    private static void jobTexts() {
        fresh(21);
        due("no bytes", job(""), 0);
        due("blanks", job(" \n"), 0);
        due("a job", job("field a 1 6;field bcdef 15 20;break 20 3;break 1 1;sum a 6 3 over 20;sum bcdef 1 1;count 6 2;"), 3);
        due("fault", hall.fault(), 0);
        due("no blanks", job("field a01 6;count6 2;"), 1);
        due("names like others' words", job("field c 1 1;field halt 2 2;sum halt 1 1;"), 1);
        due("no want", job("field a 1 1;break 1 1;"), 0);
        due("a good one", job("count 1 1;count 2 2;"), 2);
        jobFault("x", 1, 0);
        due("the job stays", hall.runs(), 1);
        due("the job stays", hall.wants(0), 3);
        jobFault("over 1;", 1, 0);
        jobFault("1;", 1, 0);
        jobFault(";", 1, 0);
        jobFault("count 1 1", 1, 9);
        jobFault("count 1 1 ", 1, 10);
        jobFault("count 1;", 1, 7);
        jobFault("count a 1;", 1, 6);
        jobFault("count 1 1;;", 1, 10);
        jobFault("count 1 1-", 1, 9);
        jobFault("count 1.1;", 1, 7);
        jobFault("count 100 1;", 1, 6);
        jobFault("Count 1 1;", 1, 0);
        jobFault("counter 1 1;", 1, 0);
        jobFault("field 1 2;", 1, 6);
        for (String key : new String[] {"field", "break", "sum", "count", "over"}) {
            jobFault("field " + key + " 1 2;", 1, 6);
            jobFault("sum " + key + " 1 2;", 1, 4);
        }
        jobFault("field abcdef 1 2;", 1, 6);
        jobFault("field a 1;", 1, 9);
        jobFault("field a;", 1, 7);
        jobFault("field a 0 2;", 2, 8);
        jobFault("field a 21 21;", 2, 8);
        jobFault("field a 5 4;", 2, 10);
        jobFault("field a 1 7;", 2, 10);
        jobFault("field a 16 21;", 2, 11);
        jobFault("field a 20 21;", 2, 11);
        due("six columns", job("field a 15 20;"), 0);
        jobFault("field a 1 2;field a 1 2;", 3, 18);
        jobFault("field a 1 2;sum b 1 1;", 3, 16);
        jobFault("sum a 1 1;field a 1 2;", 3, 4);
        jobFault("break 0 1;", 2, 6);
        jobFault("break 21 1;", 2, 6);
        jobFault("break 1 0;", 2, 8);
        jobFault("break 1 4;", 2, 8);
        jobFault("break 1 2;break 1 1;break 3 2;", 3, 28);
        due("one column, three orders", job("break 1 2;break 1 1;break 1 3;"), 0);
        jobFault("field a 1 2;sum a 0 1;", 2, 18);
        jobFault("field a 1 2;sum a 7 1;", 2, 18);
        jobFault("field a 1 2;sum a 1 4;", 2, 20);
        jobFault("field a 1 2;sum a 1 1 over;", 1, 26);
        jobFault("field a 1 2;sum a 1 1 over 0;", 2, 27);
        jobFault("field a 1 2;sum a 1 1 over 21;", 2, 27);
        jobFault("field a 1 2;sum a 1 1 under 2;", 1, 22);
        jobFault("count 1 1 over 2;", 1, 10);
        jobFault("count 0 1;", 2, 6);
        jobFault("count 7 1;", 2, 6);
        jobFault("count 1 0;", 2, 8);
        due("eight wants", job(times("count 1 1;", 8)), 8);
        jobFault(times("count 1 1;", 8) + "count", 4, 80);
        jobFault("field a 1 2;" + times("count 1 1;", 8) + " sum b", 4, 93);
        String six = "field a 1 2;field b 1 2;field c 1 2;field d 1 2;field e 1 2;field f 1 2;";
        due("six fields", job(six), 0);
        jobFault(six + "field a", 4, six.length());
        jobFault(six + "field", 4, six.length());
        due("300 bytes", job(times(" ", 290) + "count 1 1;"), 1);
        jobFault(times(" ", 291) + "count 1 1;", 1, 300);
        jobFault(times(" ", 290) + "count 1 1; ", 1, 300);
        jobFault(times(" ", 299) + "counts", 1, 299);
        jobFault(times(" ", 299) + "count 9 9;", 1, 300);
        jobFault(times(" ", 293) + "count 9 9;", 2, 299);
        due("board() and job() share fault()", board("e-p1;"), 1);
        due("fault", hall.fault(), 0);
        due("a board is no matter to the job", hall.wants(0), 1);
    }

    private static void jobRuns() {
        fresh(22);
        job("count 1 1;");
        due("runs", hall.runs(), 1);
        job(times("count 3 1;", 4));
        due("four wants, 12 digits", hall.runs(), 1);
        goOn(23);
        due("wants(0)", hall.wants(0), 15);
        due("wants(1)", hall.wants(1), -1);
        due("wants(-1)", hall.wants(-1), -1);
        goOn(22);
        job(times("count 1 1;", 5));
        due("five wants", hall.runs(), 2);
        goOn(23);
        due("wants(0)", hall.wants(0), 1);
        due("wants(1)", hall.wants(1), 30);
        job(times("count 1 1;", 8));
        due("eight wants", hall.runs(), 2);
        due("wants(0)", hall.wants(0), 15);
        due("wants(1)", hall.wants(1), 240);
        job(times("count 1 1;", 7));
        due("wants(0)", hall.wants(0), 7);
        due("wants(1)", hall.wants(1), 120);
        job("count 6 1;count 6 1;count 1 1;");
        due("13 digits", hall.runs(), 2);
        due("wants(0)", hall.wants(0), 1);
        due("wants(1)", hall.wants(1), 6);
        job("count 6 1;count 1 2;count 1 3;");
        due("four relays", hall.runs(), 1);
        job("count 4 1;count 4 2;count 1 3;");
        due("five relays", hall.runs(), 2);
        due("wants(0)", hall.wants(0), 1);
        due("wants(1)", hall.wants(1), 6);
        job("field a 1 1;sum a 1 1 over 2;sum a 1 1 over 3;sum a 1 1 over 4;");
        due("over relays", hall.runs(), 1);
        job("field a 1 1;sum a 1 1 over 2;sum a 1 1 over 2;sum a 1 1 over 2;sum a 1 1 over 2;");
        due("four relays", hall.runs(), 1);
        job("field a 1 1;sum a 2 1 over 2;sum a 2 1 over 2;sum a 2 1 over 2;sum a 2 1 over 2;");
        due("a relay has three points", hall.runs(), 2);
        due("wants(0)", hall.wants(0), 1);
        due("wants(1)", hall.wants(1), 14);
        job("field a 1 6;break 1 1;break 2 2;break 3 3;sum a 3 1;sum a 3 1;sum a 3 1;sum a 3 1;");
        due("69 wires", hall.runs(), 2);
        due("wants(0)", hall.wants(0), 1);
        due("wants(1)", hall.wants(1), 14);
        job("field a 1 6;field b 1 5;sum a 3 1;sum a 3 1;sum a 3 1;sum b 3 1;");
        due("59 wires", hall.runs(), 1);
        due("make", hall.make(0), 59);
        job("field a 1 6;sum a 3 1;sum a 3 1;sum a 3 1;sum a 3 1;");
        due("60 wires", hall.runs(), 1);
        due("make", hall.make(0), 60);
        job("field a 1 6;field b 1 3;break 1 1;sum a 3 1;sum a 3 1;sum a 3 1;sum b 3 1;");
        due("60 wires with a break", hall.runs(), 1);
        job("field a 1 6;field b 1 4;break 1 1;sum a 3 1;sum a 3 1;sum a 3 1;sum b 3 1;");
        due("61 wires", hall.runs(), 2);
        job("count 6 1;count 5 1;count 6 1;count 4 1;count 3 1;");
        due("the rest goes into two", hall.runs(), 3 - 1);
        due("wants(0)", hall.wants(0), 1 + 4);
        due("wants(1)", hall.wants(1), 2 + 8 + 16);
        due("the job is no matter to the board", hall.count(0), 60);
    }

    private static void jobBoards() {
        fresh(24);
        job("field a 2 3;field b 5 5;break 9 3;break 1 1;sum a 3 1 over 4;count 2 3;sum b 1 1 over 4;");
        due("make(-1)", hall.make(-1), -1);
        due("make(1)", hall.make(1), -1);
        due("make(0)", hall.make(0), 36);
        hall.keep(0);
        due("made wires", board("c1-ka1;a1-kb1;u1-b1;c9-ka2;a9-kb2;u2-b3;"
            + "c3-i1.1;c2-i1.2;x4-s1;e-rc1.1;rn1.1-plus1;rt1.1-minus1;"
            + "e-i2.1;e-plus2;"
            + "c5-i3.1;e-rc1.2;rn1.2-plus3;rt1.2-minus3;"
            + "t1-s2;o1.3-rc2.1;rt2.1-p1;o1.2-rc2.2;rt2.2-p2;o1.1-rc2.3;rt2.3-p3;t1-clear1;"
            + "t3-s3;o2.2-rc3.1;rt3.1-p4;o2.1-rc3.2;rt3.2-p5;t3-clear2;"
            + "t1-s4;o3.1-rc4.1;rt4.1-p6;t1-clear3;"), 36);
        hall.keep(1);
        due("apart", hall.apart(0, 1), 0);
        // Which WIRE has which number is told by those that are of no matter to this one CARD.
        hall.use(0);
        cards(0, "1234");
        lines("023..0", "...01");
        int[] idle = {0, 1, 2, 3, 4, 5, 8, 11, 14, 15, 16, 17, 25, 31, 35};
        due("missing", hall.missing(0), idle.length);
        for (int k = 0; k < idle.length; k++) {
            due("wire(" + k + ")", hall.wire(k), idle[k]);
        }
        // One told digit less: the wire to it, the wire from its wheel.
        lines(".23..0", "...01");
        due("missing", hall.missing(0), 2);
        due("wire(0)", hall.wire(0), 19);
        due("wire(1)", hall.wire(1), 20);
        lines("023..0", "...0.");
        due("missing", hall.missing(0), 2);
        due("wire(0)", hall.wire(0), 29);
        due("wire(1)", hall.wire(1), 30);
        lines("023..0");
        due("missing", hall.missing(0), 1);
        due("wire(0)", hall.wire(0), 26);
        lines("003..0", "...01");
        due("missing", hall.missing(0), 1);
        due("wire(0)", hall.wire(0), 7);
        due("same", hall.same(0, 0), 1);
        due("a NONE leaves the board", hall.make(7), -1);
        due("count(0)", hall.count(0), 36);
        goOn(27);
        board("e-p1;");
        due("same by another board", hall.same(0, 0), 0);
        due("no box", hall.same(8, 0), -1);
        due("no box", hall.same(-1, 0), -1);
        due("no run", hall.same(0, 1), -1);
        due("no run", hall.same(0, -1), -1);
        job("count 1 1;");
        cards(0, "1", "1");
        board("t1-s1;o1.1-rc1.1;rt1.1-p1;e-plus1;e-i1.1;");
        due("same lines", hall.same(0, 0), 1);
        board("t1-s1;o1.1-rc1.1;rt1.1-p1;e-plus1;e-i1.1;t3-o1.1;");
        due("same lines, but a jam", hall.same(0, 0), 0);
        cards(0, "1");
        board("t1-s1;o1.1-rc1.1;rt1.1-p1;e-plus1;e-i1.1;e-halt;");
        due("same lines, but a halt", hall.same(0, 0), 0);
        due("same of no cards", hall.same(1, 0), 1);
    }

    private static void jobLines() {
        fresh(25);
        job("field a 2 4;break 1 1;break 5 2;sum a 3 1;sum a 2 2 over 6;count 2 3;");
        due("runs", hall.runs(), 1);
        cards(0, "1123.", "1.11._", "2999.A", "20012A", "2..72");
        due("no box", hall.wanted(8, 0), -1);
        due("no box", hall.wanted(-1, 0), -1);
        due("no run", hall.wanted(0, 1), -1);
        due("no run", hall.wanted(0, -1), -1);
        dueThrow("wantedAt", () -> hall.wantedAt(0, 1));
        // behind the cards: 0, 1, 2, 0, 3
        due("wanted", hall.wanted(0, 0), 1 + 2 + 3);
        goOn(26);
        dueWanted(0, "134");
        dueWanted(1, "999");
        dueWanted(2, "...87");
        dueWanted(3, "008");
        dueWanted(4, "...06");
        dueWanted(5, ".....05");
        dueThrow("wantedAt(-1, 1)", () -> hall.wantedAt(-1, 1));
        dueThrow("wantedAt(6, 1)", () -> hall.wantedAt(6, 1));
        dueThrow("wantedAt(0, 0)", () -> hall.wantedAt(0, 0));
        dueThrow("wantedAt(0, 13)", () -> hall.wantedAt(0, 13));
        hall.make(0);
        due("same", hall.same(0, 0), 1);
        due("a NONE changes nothing", hall.wanted(0, 1), -1);
        dueWanted(5, ".....05");
        due("same() changes nothing", hall.same(1, 0), 1);
        dueWanted(5, ".....05");
        due("another job", job("count 1 1;"), 1);
        dueWanted(5, ".....05");
        goOn(25);
        due("no cards", hall.wanted(1, 0), 0);
        dueThrow("wantedAt of none", () -> hall.wantedAt(0, 1));
        job("field a 1 6;sum a 6 1;sum a 6 3 over 7;sum a 1 3;");
        due("runs", hall.runs(), 2);
        cards(0, "999999", "000003C", "999999C", "999999C");
        due("wanted", hall.wanted(0, 0), 1);
        dueWanted(0, "000000");
        due("wanted", hall.wanted(0, 1), 1);
        dueWanted(0, "0000020");
        job("field a 1 6;sum a 6 1;sum a 6 3 over 7;");
        cards(0, "999999", "000003", "999999C", "999999C", "999999C");
        due("runs", hall.runs(), 2);
        // 999999, 2 (a turn), -999997, -999996 (a turn), -999995 (a turn)
        due("wanted", hall.wanted(0, 1), 1);
        dueWanted(0, "999995");
        hall.make(1);
        due("same", hall.same(0, 1), 1);
        job("break 1 3;count 1 1;count 1 2;count 1 3;");
        hall.empty(0);
        for (int k = 0; k < 40; k++) {
            card(0, k % 2 == 0 ? "1" : "A");
        }
        due("over is no other digit: 1 and 0 are", hall.wanted(0, 0), 60);
        dueWanted(59, "..1");
        dueThrow("a 61st line is not told", () -> hall.wantedAt(60, 1));
        hall.make(0);
        due("a 61st line", hall.same(0, 0), 0);
        due("the run ends so", hall.run(0, 7), 3);
        hall.empty(0);
        for (int k = 0; k < 20; k++) {
            card(0, k % 2 == 0 ? "1" : ".");
        }
        due("just 60 lines", hall.wanted(0, 0), 60);
        due("same", hall.same(0, 0), 1);
        cards(0, "1", "B", "1");
        due("over is of no matter to a break", hall.wanted(0, 0), 3);
        dueWanted(2, "..3");
        due("same", hall.same(0, 0), 1);
    }

    private static void needed() {
        fresh(28);
        cards(0, "21", "12", ".3", "14");
        tape(1);
        due("needed", hall.needed(0), 1);
        goOn(29);
        due("neededSet", hall.neededSet(), 1);
        due("the box stays", hall.column(0, 0, 1), 2);
        due("the tape is empty", hall.count(2), 0);
        goOn(28);
        tape(2);
        due("in order already", hall.needed(0), 0);
        due("neededSet", hall.neededSet(), 0);
        tape(1, 2);
        due("the first alone", hall.needed(0), 1);
        due("neededSet", hall.neededSet(), 1);
        cards(0, "22", "21", "12", "11");
        tape(1, 2);
        due("both", hall.needed(0), 2);
        due("neededSet", hall.neededSet(), 3);
        cards(0, "12", "11", "24", "23");
        tape(1, 2);
        due("the second alone", hall.needed(0), 1);
        due("neededSet", hall.neededSet(), 2);
        tape(1, 1);
        due("a column twice, in order", hall.needed(0), 0);
        cards(0, "2", "1");
        tape(1, 1);
        due("a column twice", hall.needed(0), 1);
        due("the least as bits", hall.neededSet(), 1);
        tape(20, 1);
        due("blank in all", hall.needed(0), 1);
        due("neededSet", hall.neededSet(), 2);
        cards(0, "0", ".");
        tape(1);
        due("blank ahead of 0", hall.needed(0), 1);
        cards(0, "_", "A", "0", "B");
        tape(1);
        due("over is of no matter", hall.needed(0), 0);
        tape(1, 2, 3, 4, 5, 6, 7, 8);
        due("eight columns", hall.needed(0), 0);
        cards(0, "87654321", "12345678");
        tape(8, 7, 6, 5, 4, 3, 2, 1);
        due("eight columns", hall.needed(0), 0);
        tape(1, 2, 3, 4, 5, 6, 7, 8);
        due("eight columns", hall.needed(0), 1);
        due("neededSet", hall.neededSet(), 1);
        tape(1, 2, 3, 4, 5, 6, 7, 8, 9);
        due("nine columns", hall.needed(0), -1);
        due("the tape is empty", hall.count(2), 0);
        due("no column", hall.needed(0), -1);
        tape(0);
        due("column 0", hall.needed(0), -1);
        tape(1, 21);
        due("column 21", hall.needed(0), -1);
        tape(1);
        due("no box", hall.needed(8), -1);
        due("the tape is empty", hall.count(2), 0);
        tape(1);
        due("no box", hall.needed(-1), -1);
        due("a NONE changes nothing", hall.neededSet(), 1);
        tape(1);
        due("no cards", hall.needed(3), 0);
        due("neededSet", hall.neededSet(), 0);
    }

    private static void unseen() {
        fresh(30);
        due("no box", hall.unseen(-1), -1);
        due("no box", hall.unseen(8), -1);
        due("no cards", hall.unseen(0), 0);
        board("c1-i1.1;e-plus1;");
        cards(0, "3");
        due("one card", hall.unseen(0), 0);
        cards(0, "3", ".", "4", "0", "5");
        due("unseen", hall.unseen(0), 2);
        goOn(31);
        due("unseenAt(0)", hall.unseenAt(0), 0);
        due("unseenAt(1)", hall.unseenAt(1), 2);
        due("unseenAt(2)", hall.unseenAt(2), -1);
        due("unseenAt(-1)", hall.unseenAt(-1), -1);
        due("a NONE changes nothing", hall.unseen(8), -1);
        due("unseenAt(1)", hall.unseenAt(1), 2);
        goOn(30);
        board("e-p1;");
        due("a line less", hall.unseen(0), 0);
        board("c1-halt;");
        due("behind a halt", hall.unseen(0), 4);
        board("e-m;");
        due("a card less", hall.unseen(0), 0);
        due("the box stays", hall.cards(0), 5);
        cards(0, "9", "1", "9");
        board("c1-ka1;a1-kb1;u1-p1;");
        due("the card ahead sees another one", hall.unseen(0), 0);
        cards(0, "9", "9", "9");
        due("like cards", hall.unseen(0), 2);
    }

    private static void moves() {
        fresh(32);
        due("no wires", hall.moves(0), 0);
        lines("1");
        due("no box", hall.moves(8), -1);
        due("the tape is empty", hall.count(2), 0);
        lines("1");
        due("no box", hall.moves(-1), -1);
        tape(1);
        due("not as told", hall.moves(0), -1);
        tape(columns(":", 12));
        due("not as told", hall.moves(0), -1);
        cards(0, "12", "34", "56", "78");
        board("c1-p1;");
        lines("2", "4", "6");
        due("moves", hall.moves(0), 1);
        goOn(33);
        due("wire", hall.move(0, 0), 0);
        due("end", hall.move(0, 1), 0);
        due("hub", hall.move(0, 2), 1);
        due("no such", hall.move(0, 3), -1);
        due("no such", hall.move(0, -1), -1);
        due("no such", hall.move(1, 0), -1);
        due("no such", hall.move(-1, 0), -1);
        goOn(32);
        lines("..1", "..3", "..5");
        due("the other end", hall.moves(0), 1);
        due("wire", hall.move(0, 0), 0);
        due("end", hall.move(0, 1), 1);
        due("hub", hall.move(0, 2), 2);
        due("a NONE changes nothing", hall.moves(9), -1);
        due("hub", hall.move(0, 2), 2);
        lines("1", "3", "5");
        due("to stay is no move", hall.moves(0), 0);
        due("no such", hall.move(0, 0), -1);
        due("moves to blank columns", hall.moves(0), 18);
        due("hub", hall.move(0, 2), 2);
        due("hub", hall.move(17, 2), 19);
        due("the board stays", hall.run(0, 7), 0);
        dueLine(0, "1");
        board("c1-p1;c2-p2;");
        lines("22", "44", "66");
        due("a giver may have more", hall.moves(0), 1);
        due("hub", hall.move(0, 2), 1);
        lines(".1", ".3", ".5");
        due("a taker may not", hall.moves(0), 0);
        board("e-p1;");
        lines("1", "1", "1");
        due("e has no other", hall.moves(0), 0);
        board("c1-c2;e-p1;");
        lines("1", "1", "1");
        due("not its other end", hall.moves(0), 18 + 18);
        due("hub", hall.move(0, 2), 2);
        due("end", hall.move(18, 1), 1);
        due("hub", hall.move(18, 2), 2);
        board("c1-rc1.1;rn1.1-p1;");
        lines("1", "3", "5");
        due("points by relays and numbers", hall.moves(0), 0);
        board("c1-rc1.2;rn2.1-p1;");
        lines("1", "3", "5");
        due("points by relays and numbers", hall.moves(0), 2);
        due("wire", hall.move(0, 0), 0);
        due("end", hall.move(0, 1), 1);
        due("rc2.1", hall.move(0, 2), 3);
        due("wire", hall.move(1, 0), 1);
        due("end", hall.move(1, 1), 0);
        due("rn1.2", hall.move(1, 2), 1);
        board("o2.3-p1;e-plus1;c1-i1.6;");
        lines("9", "9", "9");
        due("digits by wheels", hall.moves(0), 1);
        due("o1.6", hall.move(0, 2), 5);
        board(times("c1-rc1.1;", 7) + "c5-p8;");
        lines("");
        due("no line is blank", hall.moves(0), 0);
        lines(".......1", ".......3", ".......5");
        // each of the seven may go to c5, the last one to c1
        due("c1 may have one more", hall.moves(0), 8);
        due("wire", hall.move(6, 0), 6);
        due("hub", hall.move(6, 2), 4);
        due("wire", hall.move(7, 0), 7);
        due("end", hall.move(7, 1), 0);
        due("hub", hall.move(7, 2), 0);
        board(times("c1-rc1.1;", 8) + "c5-p8;");
        lines(".......1", ".......3", ".......5");
        due("c1 may have none more", hall.moves(0), 8);
        due("wire", hall.move(7, 0), 7);
        due("hub", hall.move(7, 2), 4);
        board("c3-q1;c4-q2;c5-q3;c6-q4;e-p1;");
        lines("1", "1", "1");
        due("more than a hundred", hall.moves(0), 4 * (19 + 16));
        due("move(99, 0)", hall.move(99, 0), 2);
        due("move(100, 0)", hall.move(100, 0), -1);
        board("c1-p1;");
        cards(0, "1");
        lines("1");
        due("fewer cards than three", hall.moves(0), 0);
    }

    private static void shelf() {
        fresh(34);
        board("e-p1;c1-p2;");
        due("keep(-1)", hall.keep(-1), false);
        due("keep(8)", hall.keep(8), false);
        due("keep(0)", hall.keep(0), true);
        due("keep(7)", hall.keep(7), true);
        board("p2-c1;");
        due("keep(7) again", hall.keep(7), true);
        goOn(35);
        due("use(0)", hall.use(0), 2);
        due("count(0)", hall.count(0), 2);
        due("use(7)", hall.use(7), 1);
        due("use(1)", hall.use(1), -1);
        due("use(-1)", hall.use(-1), -1);
        due("use(8)", hall.use(8), -1);
        due("count(0)", hall.count(0), 1);
        cards(0, "5");
        hall.run(0, 1);
        dueLines(".5");
        board("e-p3;");
        due("what is kept stays", hall.use(0), 2);
        hall.run(0, 1);
        dueLines("15");
        goOn(36);
        due("apart(0, 0)", hall.apart(0, 0), 0);
        due("apart(0, 7)", hall.apart(0, 7), 1);
        due("apart(7, 0)", hall.apart(7, 0), 1);
        due("apart(0, 1)", hall.apart(0, 1), -1);
        due("apart(1, 0)", hall.apart(1, 0), -1);
        due("apart(-1, 0)", hall.apart(-1, 0), -1);
        due("apart(0, 8)", hall.apart(0, 8), -1);
        board("");
        hall.keep(1);
        due("of the empty one", hall.apart(0, 1), 2);
        board("e-p2;c1-p1;");
        hall.keep(2);
        due("no wire in common", hall.apart(0, 2), 4);
        board("p1-e;c1-e;rc1.1-c1;");
        hall.keep(4);
        board("e-rc1.1;c1-rc1.1;e-p2;");
        hall.keep(5);
        due("HUBS in common", hall.apart(4, 5), 4);
        goOn(34);
        hall.use(0);
        hall.keep(3);
        job("count 1 1;");
        hall.make(0);
        due("a board made is no matter to the shelf", hall.apart(0, 3), 0);
    }

    private static void keptAt(int place, String text, int wires) {
        due("board " + text, board(text), wires);
        due("keep(" + place + ")", hall.keep(place), true);
    }

    private static void dueApart(String what, int a, int b, int want) {
        due(what + ": apart(" + a + ", " + b + ")", hall.apart(a, b), want);
        due(what + ": apart(" + b + ", " + a + ")", hall.apart(b, a), want);
    }

    private static void apartLikeWires() {
        fresh(36);
        keptAt(0, "c1-rc1.1;c1-rc1.1;", 2);
        keptAt(1, "c1-rc1.1;", 1);
        keptAt(2, "c1-rc1.1;e-p1;c1-rc1.1;", 3);
        keptAt(3, "c1-rc1.1;c1-rc1.1;c1-rc1.1;", 3);
        keptAt(4, "rc1.1-c1;c1-rc1.1;", 2);
        keptAt(5, "rc1.1-c1;", 1);
        keptAt(6, "rc1.1-c1;rc1.1-c1;rc1.1-c1;", 3);
        keptAt(7, "", 0);
        dueApart("twice on one", 0, 1, 1);
        dueApart("twice on both", 0, 2, 1);
        dueApart("three times against once", 3, 1, 2);
        dueApart("three times against twice", 3, 0, 1);
        dueApart("twice, once with the ends turned", 0, 4, 0);
        dueApart("twice, once with the ends turned, against once", 4, 1, 1);
        dueApart("twice against once with the ends turned", 0, 5, 1);
        dueApart("three times against once with the ends turned", 3, 5, 2);
        dueApart("three times on both, all ends turned", 3, 6, 0);
        dueApart("three times turned against twice mixed", 6, 4, 1);
        dueApart("against none", 6, 7, 3);
        for (int k = 0; k < 8; k++) {
            due("a BOARD and itself", hall.apart(k, k), 0);
        }
        keptAt(7, "c1-rc1.2;c1-rc1.2;", 2);
        dueApart("like WIRES between other HUBS", 0, 7, 4);
        keptAt(7, "c1-rc1.2;rc1.1-c1;rc1.2-c1;", 3);
        dueApart("one of each two", 0, 7, 3);
        keptAt(6, times("c1-a1;", 8), 8);
        keptAt(7, times("a1-c1;", 5), 5);
        dueApart("eight against five", 6, 7, 3);
        mostWiresApart();
    }

    /** Sixty WIRES on each of two BOARDS, so that the last WIRE of each has a fellow. */
    private static void mostWiresApart() {
        StringBuilder there = new StringBuilder();
        StringBuilder back = new StringBuilder();
        for (int i = 0; i < 8; i++) {
            there.append(times("c" + (i + 1) + "-a" + (i + 1) + ";", i < 4 ? 8 : 7));
            back.insert(0, times("a" + (i + 1) + "-c" + (i + 1) + ";", i < 4 ? 7 : 8));
        }
        keptAt(0, there.toString(), 60);
        keptAt(1, back.toString(), 60);
        dueApart("sixty WIRES each", 0, 1, 8);
        dueApart("sixty WIRES against two others", 0, 2, 63);
    }

    private static void dueFriday(String what, int want, int... order) {
        due(what, hall.friday(), want);
        for (int k = 0; k < order.length; k++) {
            due(what + ": fridayAt(" + k + ")", hall.fridayAt(k), order[k]);
        }
        due(what + ": behind the last", hall.fridayAt(order.length), -1);
    }

    private static void fridayLikeWires() {
        fresh(37);
        keptAt(0, "c1-rc1.1;c1-rc1.1;", 2);
        keptAt(1, "c1-rc1.1;", 1);
        keptAt(2, "rc1.1-c1;c1-rc1.1;", 2);
        keptAt(3, "rc1.1-c1;rc1.1-c1;rc1.1-c1;", 3);
        keptAt(4, "", 0);
        tape(0, 0, 0, 0, 4);
        dueFriday("two WIRES from the empty BOARD", 4, 0);
        tape(0, 0, 0, 0, 3);
        due("a minute late", hall.friday(), -1);
        tape(0, 0, 0, 0, 4, 1, 0, 0, 0, 4);
        dueFriday("the one WIRE first", 4, 1, 0);
        tape(1, 0, 1, 0, 3, 0, 0, 1, 0, 6);
        dueFriday("the second WIRE is still to be set", 6, 0, 1);
        tape(1, 0, 1, 0, 3, 0, 0, 1, 0, 5);
        due("no time for the second WIRE", hall.friday(), -1);
        due("fridayAt stays", hall.fridayAt(1), 1);
        tape(0, 0, 1, 0, 5, 1, 0, 1, 0, 8);
        dueFriday("the second WIRE is still to be pulled", 8, 0, 1);
        tape(0, 0, 1, 0, 99, 2, 0, 1, 0, 99);
        dueFriday("twice on both", 6, 0, 1);
        tape(3, 0, 0, 0, 99, 1, 0, 0, 0, 99);
        dueFriday("three times behind once, ends turned", 6, 1, 0);
        tape(3, 0, 0, 0, 6, 1, 0, 0, 1, 0, 0, 0, 0, 1, 0);
        dueFriday("by rising counts", 6, 1, 2, 0);
        tape(3, 0, 1, 0, 7, 1, 0, 1, 1, 0, 0, 0, 1, 1, 0);
        dueFriday("three times must come first", 13, 0, 2, 1);
        tape(2, 0, 0, 1, 0, 4, 0, 0, 1, 0, 1, 0, 0, 1, 0);
        dueFriday("the empty one, then by rising counts", 4, 1, 2, 0);
    }

    private static void friday() {
        fresh(37);
        tape(0, 0, 0, 0, 0);
        due("none is kept", hall.friday(), -2);
        due("the tape is empty", hall.count(2), 0);
        board("e-p1;c1-p2;");
        hall.keep(0);
        board("e-p1;");
        hall.keep(1);
        board("");
        hall.keep(2);
        tape(2, 0, 0, 0, 0);
        due("nothing to set, nothing to run", hall.friday(), 0);
        tape(0, 1, 2, 1, 6);
        due("two bytes each", hall.friday(), 262);
        tape(0, 1, 2, 1, 5);
        due("a minute late", hall.friday(), -1);
        goOn(38);
        due("fridayAt(0)", hall.fridayAt(0), 0);
        due("fridayAt(1)", hall.fridayAt(1), -1);
        due("fridayAt(-1)", hall.fridayAt(-1), -1);
        goOn(37);
        tape(0, 0, 10, 1, 0, 1, 0, 10, 1, 0, 2, 0, 10, 1, 0);
        // the empty board costs nothing first
        due("three", hall.friday(), 34);
        due("fridayAt(0)", hall.fridayAt(0), 2);
        due("fridayAt(1)", hall.fridayAt(1), 1);
        due("fridayAt(2)", hall.fridayAt(2), 0);
        due("fridayAt(3)", hall.fridayAt(3), -1);
        tape(0, 0, 10, 0, 14, 1, 0, 10, 1, 0, 2, 0, 10, 1, 0);
        due("the first must end soon", hall.friday(), 38);
        due("fridayAt(0)", hall.fridayAt(0), 0);
        due("fridayAt(1)", hall.fridayAt(1), 1);
        due("fridayAt(2)", hall.fridayAt(2), 2);
        tape(1, 0, 5, 1, 0, 1, 0, 5, 1, 0, 1, 0, 5, 1, 0);
        due("of like ones the first", hall.friday(), 17);
        due("fridayAt(0)", hall.fridayAt(0), 0);
        due("fridayAt(1)", hall.fridayAt(1), 1);
        due("fridayAt(2)", hall.fridayAt(2), 2);
        tape(1, 0, 5, 0, 16, 1, 0, 5, 0, 16, 1, 0, 5, 0, 16);
        due("none does", hall.friday(), -1);
        due("fridayAt stays", hall.fridayAt(2), 2);
        tape(1, 0, 5, 0, 20, 1, 0, 5, 0, 7, 1, 0, 5, 0, 20);
        due("the second first", hall.friday(), 17);
        due("fridayAt(0)", hall.fridayAt(0), 1);
        due("fridayAt(1)", hall.fridayAt(1), 0);
        due("fridayAt(2)", hall.fridayAt(2), 2);
        due("no bytes", hall.friday(), -2);
        tape(1, 0, 5, 0);
        due("four bytes", hall.friday(), -2);
        tape(1, 0, 5, 0, 20, 1);
        due("six bytes", hall.friday(), -2);
        due("the tape is empty", hall.count(2), 0);
        tape(1, 0, 5, 0, 20, 8, 0, 5, 0, 20);
        due("no place", hall.friday(), -2);
        tape(1, 0, 5, 0, 20, 3, 0, 5, 0, 20);
        due("a place with none", hall.friday(), -2);
        int[] six = new int[30];
        int[] seven = new int[35];
        for (int i = 0; i < 7; i++) {
            System.arraycopy(new int[] {i % 3, 0, 1, 255, 255}, 0, seven, 5 * i, 5);
            if (i < 6) {
                System.arraycopy(new int[] {i % 3, 0, 1, 255, 255}, 0, six, 5 * i, 5);
            }
        }
        tape(six);
        due("six", hall.friday(), 6 + 4);
        due("fridayAt(0)", hall.fridayAt(0), 2);
        due("fridayAt(5)", hall.fridayAt(5), 3);
        tape(seven);
        due("seven", hall.friday(), -2);
        due("fridayAt(5)", hall.fridayAt(5), 3);
    }

    private static void count() {
        fresh(39);
        board("e-p1;c1-p2;");
        card(0, "1");
        card(0, "1");
        card(7, "1");
        tape(1, 2, 3);
        due("count(0)", hall.count(0), 2);
        due("count(1)", hall.count(1), 3);
        due("count(2)", hall.count(2), 3);
        due("count(-1)", hall.count(-1), -1);
        due("count(3)", hall.count(3), -1);
        board("e-m;");
        board("e-m;");
        hall.run(0, 1);
        due("count(1)", hall.count(1), 5);
    }
}
