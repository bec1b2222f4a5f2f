/** The boundary cases of a RUN (part 2, promises 10 to 13), a test for each sentence. */
public final class EdgeRunTest extends Desk {
    private static final String ALL_DIGITS = "c6-i1.1;c5-i1.2;c4-i1.3;c3-i1.4;c2-i1.5;c1-i1.6;";

    public static void main(String[] args) {
        wheelsAreZeroAtFirst();
        relaysAreNotPickedAtFirst();
        columnsGiveDigits();
        theNextCardGives();
        nothingBehindTheLastCard();
        punchedOverGives();
        comparersFindUnlike();
        comparersBehindTheLastCard();
        totalsGiveByOrder();
        wheelsGiveDigitsWithoutSign();
        belowZeroGives();
        othersGiveNothing();
        pointsOfRelays();
        allRelaysPicked();
        hubsThatAreNoPoints();
        netsJoinedInAnyOrder();
        sixtyNets();
        relaysArePickedFirst();
        relaysArePickedWhereTwoGive();
        comparersTakeTheFirst();
        twoGiversJam();
        nothingFollowsAJam();
        linesAreOfTwelve();
        plusAndMinus();
        wheelsRunOver();
        wheelsRunOverBelow();
        wheelsBesideOneAnother();
        clearIsBehindSums();
        cardsArePunched();
        haltEndsBehindTotals();
        greatestOrder();
        cyclesOfAFullBox();
        totalsBehindTheLast();
        totalsTakeNoOrders();
        endOfNoCards();
        endByHalt();
        endByA61stLine();
        endByA61stLineInTotals();
        endByACardTooMany();
        endByACardTooManyInTotals();
        cardsGoBehindWhenItHasEnded();
        cardsGoBehindWhereItJams();
        numbersOfHubs();
        runOfNoBoxes();
        ranAheadOfAny();
        ranOfWhat();
        ranOfJams();
        barsThereAre();
        barsOfTheLatestRun();
        wheelsThereAre();
        tell();
    }

    private static void dueCycles(int cards, int totals) {
        due("CARD CYCLES", hall.ran(0), cards);
        due("TOTAL CYCLES", hall.ran(1), totals);
    }

    private static void dueJam(int first, int second) {
        due("ran(5)", hall.ran(5), first);
        due("ran(6)", hall.ran(6), second);
    }

    private static void wheelsAreZeroAtFirst() {
        fresh("WHEELS are 0 at first");
        cards(0, "1", "1");
        dueRun("e-plus1;e-i1.1;e-minus4;e-i4.6;", 0);
        dueWheels(2, 0, 0, -200000);
        due("END of a RUN behind it", hall.run(0, 7), 0);
        dueWheels(2, 0, 0, -200000);
        due("END of a RUN of no CARDS", hall.run(1, 7), 0);
        dueWheels(0, 0, 0, 0);
    }

    private static void relaysAreNotPickedAtFirst() {
        fresh("no relay is PICKED (at first); relays are PICKED .. for this CYCLE alone");
        cards(0, "1A", "2", "3A");
        dueRun("x2-s1;c1-rc1.1;rt1.1-p1;rn1.1-p2;", 0);
        dueLines("1", ".2", "3");
        dueRun("x2-s4;c1-rc4.3;rt4.3-p1;rn4.3-p2;t3-rc4.2;rt4.2-p3;rn4.2-p4;", 0);
        dueLines("1", ".2", "3", "...1");
    }

    private static void columnsGiveDigits() {
        fresh("c its COLUMN's digit (nothing, if it is blank)");
        cards(0, "0", "9", ".", "_", "J");
        dueRun("c1-p1;e-p2;", 0);
        dueLines("01", "91", ".1", ".1", "91");
        dueRun("c20-p12;", 0);
        dueLines();
        cards(0, "...................7");
        dueRun("c20-p12;c19-p11;", 0);
        dueLines("...........7");
    }

    private static void theNextCardGives() {
        fresh("a that of the next CARD (nothing, if it is blank)");
        cards(0, "1", "0", ".", "_", "J");
        dueRun("a1-p1;e-p2;", 0);
        dueLines("01", ".1", ".1", "91", ".1");
        cards(0, "", "...................3");
        dueRun("a20-p1;c20-p2;", 0);
        dueLines("3", ".3");
    }

    private static void nothingBehindTheLastCard() {
        fresh("a .. (nothing behind the last one)");
        cards(0, "5");
        dueRun("a1-p1;", 0);
        dueLines();
        // CARDS that were in the BOX before, and those of the next BOX, are no next ones.
        cards(0, "5", "6");
        cards(1, "7");
        cards(0, "5");
        dueRun("a1-p1;e-p2;", 0);
        dueLines(".1");
        hall.empty(0);
        for (int k = 0; k < 40; k++) {
            card(0, "4");
        }
        dueRun("a1-i1.1;e-plus1;", 0);
        dueWheels(156, 0, 0, 0);
        // Behind a CARD with a halt there is a next one still.
        cards(0, "1", "2");
        dueRun("a1-p1;e-halt;", 1);
        dueLines("2");
    }

    private static void punchedOverGives() {
        fresh("x 1, if the COLUMN is PUNCHED OVER");
        cards(0, "A", "0", "_", ".", "J", "9");
        dueRun("x1-p1;e-p2;", 0);
        dueLines("11", ".1", "11", ".1", "11", ".1");
        cards(0, "A..................A", "B");
        dueRun("x20-p1;e-p2;", 0);
        dueLines("11", ".1");
        dueRun("x2-p1;x19-p2;", 0);
        dueLines();
    }

    private static void comparersFindUnlike() {
        fresh("u 1, if its comparer finds what its ka and its kb TAKE unlike (nothing is like nothing alone)");
        cards(0, "00", "0.", ".0", "..", "01", "99", "1A", "B1");
        dueRun("c1-ka1;c2-kb1;u1-p1;e-p2;", 0);
        dueLines(".1", "11", "11", ".1", "11", ".1", "11", ".1");
        dueRun("c1-ka4;c2-kb4;u4-p1;u3-p2;e-p3;", 0);
        dueLines("..1", "1.1", "1.1", "..1", "1.1", "..1", "1.1", "..1");
        dueRun("c1-ka1;u1-p1;u2-p2;e-kb2;", 0);
        due("LINES", hall.ran(2), 8);
        dueLine(0, "11");
        dueLine(2, ".1");
        // ka of one and kb of another are not compared.
        dueRun("c1-ka1;c1-kb2;u1-p1;u2-p2;", 0);
        dueLine(0, "11");
    }

    private static void comparersBehindTheLastCard() {
        fresh("(nothing is like nothing alone): behind the last CARD");
        cards(0, "0");
        dueRun("c1-ka1;a1-kb1;u1-p1;", 0);
        dueLines("1");
        cards(0, ".");
        dueRun("c1-ka1;a1-kb1;u1-p1;", 0);
        dueLines();
    }

    private static void totalsGiveByOrder() {
        fresh("In a TOTAL CYCLE of an order n: t n 1");
        cards(0, "1");
        dueRun("t1-p1;t2-p2;t3-p3;", 0);
        dueLines("1", ".1", "..1");
        dueRun("t3-p1;", 0);
        dueLines("1");
    }

    private static void wheelsGiveDigitsWithoutSign() {
        fresh("o the digit of its WHEEL without sign");
        cards(0, "123456");
        String bars = "o1.6-p1;o1.5-p2;o1.4-p3;o1.3-p4;o1.2-p5;o1.1-p6;";
        dueRun(ALL_DIGITS + "e-plus1;" + bars, 0);
        dueLines("123456", "123456", "123456");
        dueRun(ALL_DIGITS + "e-minus1;" + bars, 0);
        dueLines("123456", "123456", "123456");
        dueRun(bars, 0);
        dueLines("000000", "000000", "000000");
        // What it had ahead of this CYCLE's sum.
        dueRun("o4.1-p1;t1-plus4;t1-i4.1;t2-plus3;t2-i3.6;o3.6-p2;", 0);
        dueLines("00", "10", "11");
        dueWheels(0, 0, 100000, 1);
    }

    private static void belowZeroGives() {
        fresh("z 1, if its WHEEL is below 0");
        cards(0, "1");
        dueRun("e-minus1;e-i1.1;z1-p1;z2-p2;t1-p3;", 0);
        dueLines("1.1", "1", "1");
        dueRun("e-plus1;e-i1.1;z1-p1;t1-p3;", 0);
        dueLines("..1");
        dueRun("e-minus1;c2-i1.1;z1-p1;t1-p3;", 0);
        dueLines("..1");
        dueRun("e-minus4;e-rc1.1;rc1.1-i4.6;z4-p1;t1-clear4;", 0);
        dueLines("1");
    }

    private static void othersGiveNothing() {
        fresh("All others give nothing");
        cards(0, "1A", "1A");
        // In CARD CYCLES t, o and z do not, in TOTAL CYCLES c, a, x, e and u do not.
        dueRun("t1-p1;o1.1-q1;z1-q2;e-m;", 0);
        dueLines("1");
        due("column", hall.column(7, 0, 1), 15);
        due("column", hall.column(7, 0, 2), 15);
        dueRun("c1-q1;a1-q2;x2-q3;e-q4;e-ka1;u1-q5;t1-m;", 0);
        due("CARDS PUNCHED", hall.ran(3), 1);
        dueColumns(7, 2, "");
        dueRun("o1.1-c1;o1.2-a1;o1.3-x2;t1-e;e-ka1;o1.5-u1;", 0);
        dueJam(-1, -1);
    }

    private static void pointsOfRelays() {
        fresh("rc r . k with rt r . k, if r is PICKED, with rn r . k, if not");
        cards(0, "1A", "2");
        for (int r = 1; r <= 4; r += 3) {
            for (int k = 1; k <= 3; k++) {
                String point = r + "." + k;
                dueRun("x2-s" + r + ";c1-rc" + point + ";rt" + point + "-p1;rn" + point + "-p2;", 0);
                dueLines("1", ".2");
                // rt and rn are never joined with one another.
                dueRun("x2-s" + r + ";c1-rt" + point + ";rn" + point + "-p1;", 0);
                dueLines();
            }
        }
        fresh("rc r . k with rt r . k: no other point, no other relay");
        cards(0, "1A", "2");
        dueRun("x2-s1;c1-rc1.1;rt1.2-p1;rt2.1-p2;rn1.2-p3;rn2.1-p4;", 0);
        dueLines();
        dueRun("x2-s2;c1-rc1.1;rt1.1-p1;rn1.1-p2;", 0);
        dueLines(".1", ".2");
    }

    private static void allRelaysPicked() {
        fresh("relays are PICKED: none, each alone, all four at once");
        cards(0, "1", "1A", "1.A", "1..A", "1...A", "1AAAA", "1AA", "1..AA");
        dueRun("x2-s1;x3-s2;x4-s3;x5-s4;c1-rc1.1;rt1.1-p1;c1-rc2.1;rt2.1-p2;c1-rc3.1;rt3.1-p3;rc4.1-c1;rt4.1-p12;", 0);
        dueLines("1", ".1", "..1", "...........1", "111........1", "11", "..1........1");
        // One behind another, the last point of each.
        dueRun("x2-s1;x3-s2;x4-s3;x5-s4;c1-rc1.3;rt1.3-rc2.3;rt2.3-rc3.3;rt3.3-rc4.3;rt4.3-p1;rn4.3-p2;", 0);
        dueLines("1");
        dueRun("x2-s1;x3-s2;x4-s3;x5-s4;c1-rc1.3;rn1.3-rc2.3;rn2.3-rc3.3;rn3.3-rc4.3;rn4.3-p1;rt4.3-p2;", 0);
        dueLines("1", ".1");
    }

    private static void hubsThatAreNoPoints() {
        fresh("A NET: HUBS joined by WIRES, and by relays: by nothing else");
        cards(0, "1", "2");
        dueRun("c1-rc4.3;halt-p12;", 0);
        dueLines();
        dueRun("c1-rn4.3;halt-p12;", 0);
        dueLines();
        dueRun("c1-rt4.3;rn1.1-p1;rc1.1-p2;rn4.2-p3;rc4.2-p4;", 0);
        dueLines();
        dueRun("e-s1;c1-p12;e-rc1.1;rt1.1-p1;", 0);
        dueLines("1..........1", "1..........2");
    }

    private static void netsJoinedInAnyOrder() {
        fresh("A NET: HUBS joined by WIRES, in whatever order they are told");
        cards(0, "1", "3");
        dueRun("c1-rc1.1;rc2.1-p1;rc3.1-p2;rc4.1-p3;rc4.1-rc3.1;rc2.1-rc3.1;rc1.1-rc4.1;", 0);
        dueLines("111", "333");
        dueRun("rc4.1-p3;rc3.1-p2;rc2.1-p1;c1-rc1.1;rc1.1-rc2.1;rc3.1-rc4.1;rc2.1-rc3.1;", 0);
        dueLines("111", "333");
        dueRun("rc1.1-p1;rc2.1-p2;rc3.1-p3;c1-rc4.1;rc3.1-rc4.1;rc2.1-rc3.1;rc1.1-rc2.1;", 0);
        dueLines("111", "333");
        dueRun("rc1.1-p1;rc2.1-p2;rc3.1-p3;c1-rc4.1;rc1.1-rc2.1;rc3.1-rc4.1;rc2.1-rc4.1;rc1.1-rc3.1;", 0);
        dueLines("111", "333");
        fresh("A NET: .. and by relays, one behind another");
        cards(0, "1A", "3");
        dueRun("rc1.1-p1;rn2.1-rt1.1;x2-s1;rc2.1-rt3.1;c1-rc3.1;e-s3;", 0);
        dueLines("1");
        dueRun("c1-rc4.1;rn4.1-rc3.1;rn3.1-rc2.1;rn2.1-rc1.1;rn1.1-p1;rc2.1-p2;", 0);
        dueLines("11", "33");
        dueRun("rn1.1-p1;rc1.1-rn2.1;rc2.1-rn3.1;rc3.1-rn4.1;c1-rc4.1;rn2.1-p2;", 0);
        dueLines("11", "33");
    }

    private static void sixtyNets() {
        fresh("A NET: sixty WIRES, sixty NETS");
        StringBuilder b = new StringBuilder();
        for (int n = 1; n <= 20; n++) {
            b.append("c").append(n).append("-q").append(n).append(';');
        }
        for (int n = 1; n <= 12; n++) {
            b.append("a").append(n).append("-p").append(n).append(';');
        }
        for (int d = 1; d <= 6; d++) {
            b.append("x").append(d).append("-i1.").append(d).append(';');
            b.append("x").append(d + 6).append("-i2.").append(d).append(';');
            b.append("o1.").append(d).append("-i3.").append(d).append(';');
            b.append("o2.").append(d).append("-i4.").append(d).append(';');
        }
        b.append("e-m;t1-plus3;t2-plus4;x20-halt;");
        cards(0, "ABCDEFGHIJ1234567890", "0123456789012");
        dueRun(b.toString(), 0);
        due("WIRES", hall.count(0), 60);
        dueLines("012345678901");
        dueColumns(7, 0, "01234567891234567890");
        dueColumns(7, 1, "0123456789012");
        dueWheels(0, 0, 0, 0);
    }

    private static void relaysArePickedFirst() {
        fresh("first, with no relay PICKED and u giving nothing, relays are PICKED whose s TAKES something");
        cards(0, "1A", "2");
        // s2 hangs on a point that is open as soon as relay 1 is PICKED: it is PICKED with it.
        dueRun("x2-s1;e-rc1.1;rn1.1-s2;c1-rc2.1;rt2.1-p1;rn2.1-p2;", 0);
        dueLines("1", "2");
        dueRun("x2-s1;e-rc1.1;rt1.1-s2;c1-rc2.1;rt2.1-p1;rn2.1-p2;", 0);
        dueLines(".1", ".2");
        dueRun("e-ka1;u1-s1;c1-rc1.1;rt1.1-p1;rn1.1-p2;", 0);
        dueLines(".1", ".2");
        // A digit 0 is something.
        cards(0, "0", ".");
        dueRun("c1-s1;e-rc1.1;rt1.1-p1;rn1.1-p2;", 0);
        dueLines("1", ".1");
    }

    private static void relaysArePickedWhereTwoGive() {
        fresh("relays are PICKED whose s TAKES something (also where more than one gives ..)");
        cards(0, "12");
        // Two give to s1 by its own point, which opens then: the NETS are parted, and nothing JAMS.
        dueRun("c1-s1;s2-rn1.1;c1-rc1.1;c2-rn1.1;rt1.1-p1;", 0);
        dueLines("1");
        dueRun("c1-rc1.1;c2-rn1.1;rn1.1-s1;rt1.1-p1;", 0);
        dueLines("1");
        dueRun("c1-rc1.1;c2-rt1.1;rn1.1-s1;", 2);
        dueJam(0, 1);
    }

    private static void comparersTakeTheFirst() {
        fresh("ka and kb TAKE (where more than one gives: what the first of them gives, as numbered below)");
        cards(0, "15656");
        // c2 and c3 give to ka1: it TAKES 5. u1 on the NET of c1 tells by the JAM whether it gives.
        dueRun("c3-rc1.1;c2-rc1.1;rc1.1-ka1;c4-kb1;c1-u1;", 2);
        dueJam(1, 2);
        dueRun("c3-rc1.1;c2-rc1.1;rc1.1-ka1;c5-kb1;c1-u1;", 2);
        dueJam(0, 61);
        dueRun("c3-rc1.1;c2-rc1.1;rc1.1-kb1;c4-ka1;c1-u1;", 2);
        dueJam(1, 2);
        dueRun("e-rc1.1;c4-rc1.1;rc1.1-kb1;c2-ka1;c1-u1;", 2);
        dueJam(3, 60);
    }

    private static void twoGiversJam() {
        fresh("If in a NET two HUBS GIVE now: the machine JAMS in this CYCLE");
        cards(0, "11", "1", ".1");
        dueRun("c1-c2;", 2);
        dueCycles(0, 0);
        cards(0, "1", ".1", "");
        dueRun("c1-c2;", 0);
        dueRun("c1-c2;c2-p1;", 0);
        dueLines("1", "1");
        // Like digits are two givers still; a HUB with two WIRES to one NET is one.
        cards(0, "11");
        dueRun("c1-rc1.1;c2-rc1.1;", 2);
        dueRun("c1-rc1.1;c1-rc1.1;", 0);
        dueRun("c1-rc1.1;rc1.1-rn1.1;c1-rn1.1;rn1.1-p1;", 0);
        dueLines("1");
        dueRun("c1-a1;c1-x1;", 0);
    }

    private static void nothingFollowsAJam() {
        fresh("the machine JAMS in this CYCLE, and nothing of what follows is done");
        cards(0, "1", "11", "1");
        dueRun("c1-p1;e-plus1;e-i1.1;e-m;e-b3;c1-c2;t3-minus2;t3-i2.1;", 2);
        dueLines("1");
        dueWheels(1, -1, 0, 0);
        dueCycles(1, 3);
        due("CARDS PUNCHED", hall.ran(3), 1);
        due("cards(7)", hall.cards(7), 1);
        // In a TOTAL CYCLE likewise, with a clear and a halt there.
        cards(0, "1", "1");
        dueRun("e-plus1;e-i1.1;t2-clear1;t2-s1;o2.1-rc1.1;rt1.1-o2.2;t1-p1;t3-p2;e-halt;", 2);
        dueLines("1");
        dueWheels(1, 0, 0, 0);
        dueCycles(1, 1);
    }

    private static void linesAreOfTwelve() {
        fresh("p: if any TAKES something, a LINE is printed: 12 digits or blanks");
        cards(0, "0", ".", "9");
        dueRun("c1-p1;", 0);
        dueLines("0", "9");
        dueRun("c1-p12;", 0);
        dueLines("...........0", "...........9");
        dueRun("p1-p2;", 0);
        dueLines();
        cards(0, "123456789012");
        dueRun("c1-p1;c2-p2;c3-p3;c4-p4;c5-p5;c6-p6;c7-p7;c8-p8;c9-p9;c10-p10;c11-p11;c12-p12;", 0);
        dueLines("123456789012");
    }

    private static void plusAndMinus() {
        fresh("if plus TAKES something and minus does not, .. is added; if minus does and plus does not, it is taken away");
        cards(0, "0", ".");
        // A digit 0 at plus is something; i's that TAKE nothing are 0.
        dueRun("c1-plus1;e-i1.1;", 0);
        dueWheels(1, 0, 0, 0);
        dueRun("c1-minus1;e-i1.1;", 0);
        dueWheels(-1, 0, 0, 0);
        dueRun("c1-minus1;e-plus1;e-i1.1;", 0);
        dueWheels(1, 0, 0, 0);
        dueRun("c1-plus1;e-minus1;e-i1.1;", 0);
        dueWheels(-1, 0, 0, 0);
        dueRun("e-plus1;", 0);
        dueWheels(0, 0, 0, 0);
        dueRun("e-i1.1;e-i2.1;e-plus3;e-i4.1;e-minus4;", 0);
        dueWheels(0, 0, 0, -2);
        cards(0, "...9");
        dueRun(ALL_DIGITS + "e-plus1;c4-i2.1;c4-i2.6;e-minus2;", 0);
        dueWheels(900, -900009, 0, 0);
    }

    private static void wheelsRunOver() {
        fresh("A WHEEL beyond 999999 either way RUNS OVER: it has the last six digits of it, with its sign");
        String adds = ALL_DIGITS + "e-plus1;";
        cards(0, "999998", "000001");
        dueRun(adds, 0);
        dueWheels(999999, 0, 0, 0);
        due("ran(4)", hall.ran(4), 0);
        cards(0, "999999", "000001");
        dueRun(adds, 0);
        dueWheels(0, 0, 0, 0);
        due("ran(4)", hall.ran(4), 1);
        cards(0, "999999", "000002");
        dueRun(adds, 0);
        dueWheels(1, 0, 0, 0);
        due("ran(4)", hall.ran(4), 1);
        cards(0, "999999", "999999");
        dueRun(adds, 0);
        dueWheels(999998, 0, 0, 0);
        due("ran(4)", hall.ran(4), 1);
        cards(0, "999999", "999999", "000001", "000001");
        dueRun(adds, 0);
        dueWheels(0, 0, 0, 0);
        due("ran(4)", hall.ran(4), 2);
    }

    private static void wheelsRunOverBelow() {
        fresh("A WHEEL beyond 999999 either way RUNS OVER: below 0");
        String takes = ALL_DIGITS + "e-minus1;z1-p1;";
        cards(0, "999998", "000001");
        dueRun(takes, 0);
        dueWheels(-999999, 0, 0, 0);
        due("ran(4)", hall.ran(4), 0);
        cards(0, "999999", "000001");
        dueRun(takes, 0);
        dueWheels(0, 0, 0, 0);
        due("ran(4)", hall.ran(4), 1);
        due("0 is not below 0", hall.ran(2), 0);
        cards(0, "999999", "000002");
        dueRun(takes, 0);
        dueWheels(-1, 0, 0, 0);
        due("ran(4)", hall.ran(4), 1);
        due("LINES", hall.ran(2), 3);
        cards(0, "999999", "999999");
        dueRun(takes, 0);
        dueWheels(-999998, 0, 0, 0);
        due("ran(4)", hall.ran(4), 1);
        // To come back over 0 is not to run over.
        cards(0, "999999A", "999999", "999999");
        dueRun(ALL_DIGITS + "x7-s1;e-rc1.1;rt1.1-minus1;rn1.1-plus1;", 0);
        dueWheels(999999, 0, 0, 0);
        due("ran(4)", hall.ran(4), 0);
    }

    private static void wheelsBesideOneAnother() {
        fresh("the number of the digits that its i's TAKE is added: six digits of its own");
        cards(0, "999999");
        StringBuilder b = new StringBuilder();
        for (int w = 1; w <= 4; w++) {
            for (int d = 1; d <= 6; d++) {
                b.append("c").append(d).append("-i").append(w).append('.').append(d).append(';');
            }
            b.append(w % 2 == 0 ? "e-minus" : "e-plus").append(w).append(';');
        }
        dueRun(b.toString(), 0);
        dueWheels(999999, -999999, 999999, -999999);
        due("none RAN OVER", hall.ran(4), 0);
        cards(0, "9", "9");
        dueRun(b.toString(), 0);
        dueWheels(18, -18, 18, -18);
        due("none RAN OVER", hall.ran(4), 0);
        cards(0, "99999C", "99999C", "99999C");
        dueRun(b.toString(), 0);
        dueWheels(899997, -899997, 899997, -899997);
        due("none RAN OVER", hall.ran(4), 0);
        cards(0, ".....9", ".....2");
        dueRun(b.toString(), 0);
        dueWheels(100000, -100000, 100000, -100000);
        due("each RAN OVER", hall.ran(4), 4);
    }

    private static void clearIsBehindSums() {
        fresh("clear: its WHEEL is 0 then (behind all sums)");
        cards(0, "9", "9A");
        dueRun("c1-i1.6;e-plus1;x2-clear1;c1-i2.6;e-plus2;", 0);
        dueWheels(0, 800000, 0, 0);
        due("both RAN OVER", hall.ran(4), 2);
        dueRun("c1-i4.6;e-minus4;x2-clear4;x2-clear3;", 0);
        dueWheels(0, 0, 0, 0);
        dueLines();
        // A digit 0 at clear is something.
        cards(0, "0");
        dueRun("e-i1.1;e-plus1;c1-clear1;", 0);
        dueWheels(0, 0, 0, 0);
    }

    private static void cardsArePunched() {
        fresh("m: a CARD is PUNCHED, with the digits that q's TAKE, blank where nothing, none PUNCHED OVER");
        cards(0, "J_0", "");
        dueRun("e-m;c1-q1;c2-q2;c3-q20;x1-q3;", 0);
        due("cards(7)", hall.cards(7), 2);
        dueColumns(7, 0, "9.1................0");
        dueColumns(7, 1, "");
        dueRun("c1-q1;", 0);
        due("no m, no CARD", hall.ran(3), 0);
        due("cards(7)", hall.cards(7), 2);
        // A digit 0 at m is something.
        dueRun("c3-m;", 0);
        due("CARDS PUNCHED", hall.ran(3), 1);
    }

    private static void haltEndsBehindTotals() {
        fresh("halt: the RUN ends behind this CARD and its TOTAL CYCLES");
        cards(0, ".", "0", "1");
        dueRun("c1-halt;e-p1;t1-p2;t2-p3;t3-p4;", 1);
        dueLines("1", "1", ".1", "..1", "...1");
        dueCycles(2, 3);
        cards(0, "0", "0");
        dueRun("c1-halt;e-m;", 1);
        due("CARDS PUNCHED", hall.ran(3), 1);
        dueCycles(1, 3);
    }

    private static void greatestOrder() {
        fresh("of the orders 1 to n, in this order, n being the greatest with b n that TAKES something");
        cards(0, "ABC", "..A", ".A", "A", "", "");
        dueRun("x1-b1;x2-b2;x3-b3;t1-p1;t2-p2;t3-p3;", 0);
        due("TOTAL CYCLES", hall.ran(1), 3 + 3 + 2 + 1 + 0 + 3);
        dueLines("1", ".1", "..1", "1", ".1", "..1", "1", ".1", "1", "1", ".1", "..1");
        // A digit 0 at b is something.
        cards(0, "0", ".");
        dueRun("c1-b2;", 0);
        dueCycles(2, 5);
    }

    private static void cyclesOfAFullBox() {
        fresh("one CARD CYCLE each; TOTAL CYCLES: as many as there may be");
        for (int k = 0; k < 40; k++) {
            card(0, "9");
        }
        dueRun("e-b3;e-plus1;c1-i1.6;t1-plus2;t1-i2.1;t2-plus3;t2-i3.1;t3-plus4;t3-i4.1;", 0);
        dueCycles(40, 120);
        dueWheels(0, 40, 40, 40);
        due("ran(4)", hall.ran(4), 36);
    }

    private static void totalsBehindTheLast() {
        fresh("behind the last CARD (or a halt) all three");
        cards(0, "1");
        dueRun("e-p1;", 0);
        dueCycles(1, 3);
        dueRun("e-b1;", 0);
        dueCycles(1, 3);
        dueRun("e-b3;", 0);
        dueCycles(1, 3);
        cards(0, "1", "1");
        dueRun("e-b1;", 0);
        dueCycles(2, 4);
        dueRun("e-b1;e-halt;", 1);
        dueCycles(1, 3);
    }

    private static void totalsTakeNoOrders() {
        fresh("In TOTAL CYCLES b and halt are of no matter");
        cards(0, "1", "1");
        dueRun("t1-b3;t2-halt;e-b1;", 0);
        dueCycles(2, 4);
        dueRun("t1-rc1.1;rn1.1-halt;rn1.1-b3;e-b2;", 0);
        dueCycles(2, 5);
    }

    private static void endOfNoCards() {
        fresh("0 all CARDS (at once, where there are none)");
        dueRun("t1-p1;e-p2;e-halt;t1-m;t1-o1.1;", 0);
        dueCycles(0, 0);
        dueLines();
        due("ran(3)", hall.ran(3), 0);
        due("ran(4)", hall.ran(4), 0);
        dueJam(-1, -1);
        dueWheels(0, 0, 0, 0);
    }

    private static void endByHalt() {
        fresh("END of a RUN: 1 halt (also behind the last CARD), else 0 all CARDS");
        cards(0, "1");
        dueRun("e-halt;", 1);
        dueRun("a1-halt;", 0);
        cards(0, "1", "1");
        dueRun("a1-halt;", 1);
        dueCycles(1, 3);
        cards(0, "1", ".", "2");
        dueRun("a1-s1;e-rc1.1;rn1.1-rc2.1;c1-s2;rt2.1-halt;", 1);
        dueCycles(1, 3);
    }

    private static void endByA61stLine() {
        fresh("3 a 61st LINE (that LINE is not made, nothing of what follows in the CYCLE is done)");
        for (int k = 0; k < 30; k++) {
            card(0, "7");
        }
        dueRun("e-p1;e-b1;t1-p2;", 0);
        due("LINES", hall.ran(2), 60);
        card(0, "7");
        dueRun("e-p1;e-b1;t1-p2;e-plus1;e-i1.1;e-m;", 3);
        due("LINES", hall.ran(2), 60);
        dueCycles(30, 30);
        dueWheels(30, 0, 0, 0);
        due("CARDS PUNCHED", hall.ran(3), 30);
        due("cards(7)", hall.cards(7), 30);
        dueLine(58, "1");
        dueLine(59, ".1");
        dueThrow("bar(60, 1)", () -> hall.bar(60, 1));
        dueJam(-1, -1);
    }

    private static void endByA61stLineInTotals() {
        fresh("3 a 61st LINE, in a TOTAL CYCLE");
        for (int k = 0; k < 20; k++) {
            card(0, "7");
        }
        dueRun("e-b3;t1-p1;t2-p2;t3-p3;", 0);
        due("LINES", hall.ran(2), 60);
        dueCycles(20, 60);
        card(0, "7");
        dueRun("e-b3;t1-p1;t2-p2;t3-p3;t1-plus1;t1-i1.1;t3-m;", 3);
        due("LINES", hall.ran(2), 60);
        dueCycles(21, 60);
        dueWheels(20, 0, 0, 0);
        due("CARDS PUNCHED", hall.ran(3), 20);
    }

    private static void endByACardTooMany() {
        fresh("3 a CARD PUNCHED more than the told BOX holds (that CARD is not made, nothing of what follows is done)");
        for (int k = 0; k < 38; k++) {
            card(7, "1");
        }
        cards(0, "2", "3");
        dueRun("e-m;c1-q1;", 0);
        due("cards(7)", hall.cards(7), 40);
        due("column", hall.column(7, 38, 1), 2);
        due("column", hall.column(7, 39, 1), 3);
        dueRun("e-m;c1-q1;e-p1;e-plus1;e-i1.1;e-halt;e-b3;", 3);
        due("ran(3)", hall.ran(3), 0);
        dueCycles(0, 0);
        dueLines("1");
        due("a sum is ahead of it", hall.wheel(1), 1);
        due("cards(7)", hall.cards(7), 40);
        due("column", hall.column(7, 39, 1), 3);
        // A BOX that is full is no matter to a RUN that PUNCHES none.
        dueRun("e-p1;", 0);
        hall.empty(7);
        dueRun("e-m;", 0);
        due("cards(7)", hall.cards(7), 2);
    }

    private static void endByACardTooManyInTotals() {
        fresh("3 a CARD PUNCHED more than the told BOX holds, in a TOTAL CYCLE");
        for (int k = 0; k < 39; k++) {
            card(7, "1");
        }
        cards(0, "2");
        dueRun("t2-m;t2-q1;", 0);
        due("cards(7)", hall.cards(7), 40);
        dueCycles(1, 3);
        dueRun("t2-m;t1-p1;t2-p2;t3-p3;", 3);
        dueCycles(1, 1);
        dueLines("1", ".1");
        due("cards(7)", hall.cards(7), 40);
    }

    private static void cardsGoBehindWhenItHasEnded() {
        fresh("CARDS PUNCHED go behind those of the told BOX when the RUN has ended");
        cards(7, "8");
        cards(0, "1", "2");
        dueRun("e-m;c1-q1;", 0);
        due("cards(7)", hall.cards(7), 3);
        due("column", hall.column(7, 0, 1), 8);
        due("column", hall.column(7, 1, 1), 1);
        due("column", hall.column(7, 2, 1), 2);
        dueRun("e-m;c1-q1;e-halt;", 1);
        due("cards(7)", hall.cards(7), 4);
        due("the BOX that goes by keeps its CARDS", hall.cards(0), 2);
        due("END into another BOX", hall.run(0, 1), 1);
        due("cards(1)", hall.cards(1), 1);
        due("cards(7)", hall.cards(7), 4);
        due("from the other end", hall.run(7, 0), 1);
        due("cards(0)", hall.cards(0), 3);
        due("column", hall.column(0, 2, 1), 8);
    }

    private static void cardsGoBehindWhereItJams() {
        fresh("CARDS PUNCHED go behind .. (also where it JAMS)");
        cards(7, "8");
        cards(0, "1", "2", "33");
        dueRun("e-m;c1-q1;c1-c2;", 2);
        due("ran(3)", hall.ran(3), 2);
        due("cards(7)", hall.cards(7), 3);
        due("column", hall.column(7, 2, 1), 2);
        // And where it ends in full.
        hall.empty(7);
        for (int k = 0; k < 39; k++) {
            card(7, "5");
        }
        dueRun("e-m;c1-q1;", 3);
        due("ran(3)", hall.ran(3), 1);
        due("column", hall.column(7, 39, 1), 1);
    }

    private static void dueJamOf(String card, String next, String text, int first, int second) {
        cards(0, card, next);
        dueRun(text, 2);
        dueJam(first, second);
    }

    private static void numbersOfHubs() {
        fresh("HUBS that give are numbered: c 0 .. 19, a 20 .. 39, x 40 .. 59, e 60, u 61 .. 64");
        String full = "ABCDEFGHIJABCDEFGHIJ";
        dueJamOf(full, full, "c1-c20;", 0, 19);
        dueJamOf(full, full, "c2-a1;", 1, 20);
        dueJamOf(full, full, "a20-x1;", 39, 40);
        dueJamOf(full, full, "x20-e;", 59, 60);
        dueJamOf(full, full, "e-ka1;e-ka4;u4-u1;", 61, 64);
        dueJamOf(full, full, "e-ka2;u2-c10;", 9, 62);
        dueJamOf(full, full, "e-ka3;u3-e;", 60, 63);
        fresh("HUBS that give are numbered: t 65 .. 67, o 68 .. 91 (WHEEL by WHEEL, digit by digit), z 92 .. 95");
        dueJamOf("1", "1", "t1-o1.1;", 65, 68);
        dueJamOf("1", "1", "t2-o1.6;", 66, 73);
        dueJamOf("1", "1", "t3-o2.1;", 67, 74);
        dueJamOf("1", "1", "o4.6-o4.1;", 86, 91);
        dueJamOf("1", "1", "e-minus1;e-i1.1;z1-o3.1;", 80, 92);
        dueJamOf("1", "1", "e-minus4;e-i4.1;z4-o3.6;", 85, 95);
        dueJamOf("1", "1", "e-minus2;e-i2.1;e-minus3;e-i3.1;z3-z2;", 93, 94);
        dueJamOf("1", "1", "t2-t1;t2-o1.1;", 65, 68);
    }

    private static void runOfNoBoxes() {
        fresh("run(): NONE: no such BOXES, or one");
        cards(0, "1");
        cards(7, "2");
        dueBoard("c1-p1;e-m;", 2);
        due("run(0, 7)", hall.run(0, 7), 0);
        due("run(7, 0)", hall.run(7, 0), 0);
        due("lines", hall.ran(2), 1);
        int[] none = {-1, 8, Integer.MIN_VALUE, Integer.MAX_VALUE};
        for (int box : none) {
            due("run(" + box + ", 0)", hall.run(box, 0), -1);
            due("run(0, " + box + ")", hall.run(0, box), -1);
            due("run(" + box + ", " + box + ")", hall.run(box, box), -1);
        }
        for (int box = 0; box < 8; box++) {
            due("one BOX", hall.run(box, box), -1);
        }
        due("cards(0)", hall.cards(0), 3);
        due("cards(7)", hall.cards(7), 2);
        dueLines("2");
    }

    private static void ranAheadOfAny() {
        fresh("ran(): NONE for another what, or ahead of any");
        cards(0, "1");
        dueBoard("e-p1;", 1);
        hall.idle(0);
        hall.tests(0);
        hall.unseen(0);
        lines("1");
        hall.moves(0);
        lines("1");
        hall.missing(0);
        dueJob("count 1 1;", 1);
        hall.same(0, 0);
        hall.run(0, 0);
        for (int what = -1; what <= 7; what++) {
            due("ran(" + what + ")", hall.ran(what), -1);
        }
        dueThrow("bar(0, 1)", () -> hall.bar(0, 1));
        dueThrow("wheel(1)", () -> hall.wheel(1));
    }

    private static void ranOfWhat() {
        fresh("ran(): NONE for another what");
        cards(0, "9", "9");
        dueRun("e-p1;e-plus1;c1-i1.6;e-m;", 0);
        int[] want = {2, 3, 2, 2, 1, -1, -1};
        for (int what = 0; what < 7; what++) {
            due("ran(" + what + ")", hall.ran(what), want[what]);
        }
        for (int what : new int[] {-1, 7, Integer.MIN_VALUE, Integer.MAX_VALUE}) {
            due("ran(" + what + ")", hall.ran(what), -1);
        }
    }

    private static void ranOfJams() {
        fresh("5 and 6 the two HUBS with the least numbers that gave in one NET where it JAMMED");
        cards(0, "1234");
        dueRun("c4-rc1.1;c3-rc1.1;c2-rc1.1;", 2);
        dueJam(1, 2);
        fresh("of the NET with the least such");
        cards(0, "1234");
        dueRun("c3-c4;c1-e;", 2);
        dueJam(0, 60);
        dueRun("e-c1;c2-c3;", 2);
        dueJam(0, 60);
        dueRun("c2-c3;c1-e;c4-x1;", 2);
        dueJam(0, 60);
        fresh("NONE, if it did not (JAM)");
        cards(0, "12");
        dueRun("c1-c2;", 2);
        dueJam(0, 1);
        dueRun("c1-p1;", 0);
        dueJam(-1, -1);
        dueRun("c1-halt;", 1);
        dueJam(-1, -1);
        dueRun("c1-c2;", 2);
        due("a RUN of no BOX leaves it", hall.run(8, 0), -1);
        dueJam(0, 1);
    }

    private static void barsThereAre() {
        fresh("bar(): bar n (1 to 12) .. in a LINE (from 0 on): a digit, or 15. NoSuchElementException: there is none such");
        cards(0, "3", "4");
        dueRun("c1-p1;c1-p12;", 0);
        due("bar(0, 1)", hall.bar(0, 1), 3);
        due("bar(1, 12)", hall.bar(1, 12), 4);
        due("bar(0, 2)", hall.bar(0, 2), 15);
        due("bar(0, 11)", hall.bar(0, 11), 15);
        int[][] none = {{-1, 1}, {2, 1}, {0, 0}, {0, 13}, {0, -1}, {1, 13}, {-1, 13}, {Integer.MIN_VALUE, 1},
            {Integer.MAX_VALUE, 1}, {0, Integer.MIN_VALUE}, {0, Integer.MAX_VALUE}};
        for (int[] one : none) {
            dueThrow("bar(" + one[0] + ", " + one[1] + ")", () -> hall.bar(one[0], one[1]));
        }
        due("bar(0, 1)", hall.bar(0, 1), 3);
    }

    private static void barsOfTheLatestRun() {
        fresh("bar(): of the latest RUN");
        cards(0, "3", "4");
        dueRun("c1-p1;", 0);
        cards(0, "5");
        due("bar(1, 1) stays", hall.bar(1, 1), 4);
        due("END", hall.run(0, 7), 0);
        due("bar(0, 1)", hall.bar(0, 1), 5);
        dueThrow("bar(1, 1)", () -> hall.bar(1, 1));
        due("END of no CARDS", hall.run(1, 7), 0);
        dueThrow("bar(0, 1)", () -> hall.bar(0, 1));
    }

    private static void wheelsThereAre() {
        fresh("wheel(): a WHEEL (1 to 4). NoSuchElementException: no such one, or ahead of any");
        for (int w = 0; w <= 5; w++) {
            int which = w;
            dueThrow("wheel(" + w + ")", () -> hall.wheel(which));
        }
        cards(0, "3");
        dueRun("c1-i1.1;e-plus1;c1-i4.1;e-minus4;", 0);
        dueWheels(3, 0, 0, -3);
        for (int w : new int[] {0, 5, -1, Integer.MIN_VALUE, Integer.MAX_VALUE}) {
            dueThrow("wheel(" + w + ")", () -> hall.wheel(w));
        }
        dueWheels(3, 0, 0, -3);
    }
}
