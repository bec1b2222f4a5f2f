/** The boundary cases of the tape, CARDS and BOXES, PASSES and NEEDED (promises 1 to 7, 14, 28, 29, 39). */
public final class EdgeBoxTest extends Desk {
    private static final int[] NO_BOXES = {-1, 8, 9, Integer.MIN_VALUE, Integer.MAX_VALUE};

    public static void main(String[] args) {
        emptyBoxes();
        emptyBoard();
        emptyTape();
        highestByteFirst();
        tapeOf740();
        noneComeBeyond740();
        firstBytesAlone();
        notSoManyBytes();
        bytesOfACard();
        twentyBytesOfACard();
        fullBox();
        cardsOfOtherBoxes();
        cardsBehindAPass();
        fullBoxes();
        tapeIsEmptyThen();
        cardOfNoBox();
        cardsOfNoBox();
        columnsThereAre();
        columnsThereAreNot();
        emptyOfNoBox();
        boxIsEmptyThen();
        passOfNoBoxOrColumn();
        passPutsBlankAhead();
        passOfEachOrder();
        passLeavesLikeOnes();
        passOfAFullBox();
        neededOfEightColumns();
        neededColumnsThereAre();
        neededOfBytesBeyondTheEnd();
        neededOfNoBox();
        neededIsFewest();
        neededIsLeast();
        neededBlankAhead();
        neededOfLikeOnes();
        neededOfFewCards();
        neededSetAheadOfAny();
        countOfAnotherWhat();
        tell();
    }

    private static void emptyBoxes() {
        fresh("PlugHall(): Empty BOXES");
        for (int box = 0; box < 8; box++) {
            int which = box;
            due("cards", hall.cards(box), 0);
            due("empty", hall.empty(box), 0);
            dueThrow("column", () -> hall.column(which, 0, 1));
        }
        due("count(1)", hall.count(1), 0);
    }

    private static void emptyBoard() {
        fresh("PlugHall(): the empty BOARD");
        due("count(0)", hall.count(0), 0);
        cards(0, "1");
        due("END", hall.run(0, 1), 0);
        dueLines();
        due("CARD CYCLES", hall.ran(0), 1);
        due("keep", hall.keep(0), true);
        due("use", hall.use(0), 0);
    }

    private static void emptyTape() {
        fresh("PlugHall(): an empty tape");
        due("count(2)", hall.count(2), 0);
        due("end(1)", hall.end(1), false);
        due("feed", hall.feed(0, 0, 0, 0, 0), 20);
    }

    private static void highestByteFirst() {
        fresh("feed(): Twenty bytes come behind the tape, of each number the highest first");
        due("feed", hall.feed(0x00010203, 0x04050607, 0x08090f10, 0x11121314, 0x1516191f), 20);
        due("card", hall.card(3), 1);
        int[] want = {0, 1, 2, 3, 4, 5, 6, 7, 8, 9, 15, 16, 17, 18, 19, 20, 21, 22, 25, 31};
        for (int n = 1; n <= 20; n++) {
            due("column " + n, hall.column(3, 0, n), want[n - 1]);
        }
        // A number below 0 has a highest byte of 128 or more.
        for (int i = 0; i < 5; i++) {
            int[] n = new int[5];
            n[i] = Integer.MIN_VALUE;
            hall.feed(n[0], n[1], n[2], n[3], n[4]);
            due("a byte 128", hall.card(3), -1);
            n[i] = -1;
            hall.feed(n[0], n[1], n[2], n[3], n[4]);
            due("bytes 255", hall.card(3), -1);
        }
        due("cards", hall.cards(3), 1);
    }

    private static void tapeOf740() {
        fresh("feed(): how many it has; NONE .. if it would have more than 740");
        for (int k = 1; k <= 37; k++) {
            due("feed", hall.feed(1, 2, 3, 4, 5), 20 * k);
        }
        due("feed of a full tape", hall.feed(1, 2, 3, 4, 5), -1);
        due("end(720)", hall.end(720), true);
        due("feed that fills it", hall.feed(1, 2, 3, 4, 5), 740);
        due("end(721)", hall.end(721), true);
        due("feed of 741", hall.feed(1, 2, 3, 4, 5), -1);
        due("end(719)", hall.end(719), true);
        due("feed of 739", hall.feed(1, 2, 3, 4, 5), 739);
        due("feed of 759", hall.feed(1, 2, 3, 4, 5), -1);
    }

    private static void noneComeBeyond740() {
        fresh("feed(): NONE, and none come");
        hall.feed(0x01010101, 0x01010101, 0x01010101, 0x01010101, 0x01010101);
        for (int k = 2; k <= 37; k++) {
            hall.feed(0x02020202, 0x02020202, 0x02020202, 0x02020202, 0x02020202);
        }
        hall.end(730);
        due("feed", hall.feed(0x03030303, 0x03030303, 0x03030303, 0x03030303, 0x03030303), -1);
        due("count(2)", hall.count(2), 730);
        due("end(731)", hall.end(731), false);
        due("end(730)", hall.end(730), true);
        due("end(20)", hall.end(20), true);
        due("card", hall.card(0), 1);
        dueColumns(0, 0, "11111111111111111111");
    }

    private static void firstBytesAlone() {
        fresh("end(): The tape has its first n bytes alone: true");
        hall.feed(0x01010101, 0x01010101, 0x01010101, 0x01010101, 0x01010101);
        due("end(20) of 20", hall.end(20), true);
        due("count(2)", hall.count(2), 20);
        due("end(5)", hall.end(5), true);
        due("count(2)", hall.count(2), 5);
        due("feed goes behind them", hall.feed(0x02020202, 0x02020202, 0x02020202, 0x02020202, 0x02020202), 25);
        due("end(20)", hall.end(20), true);
        due("card", hall.card(0), 1);
        dueColumns(0, 0, "11111222222222222222");
        due("end(0) of none", hall.end(0), true);
        hall.feed(0, 0, 0, 0, 0);
        due("end(0)", hall.end(0), true);
        due("count(2)", hall.count(2), 0);
    }

    private static void notSoManyBytes() {
        fresh("end(): false, if it has not so many, or n is below 0");
        due("end(1) of none", hall.end(1), false);
        hall.feed(0x01010101, 0x01010101, 0x01010101, 0x01010101, 0x01010101);
        for (int n : new int[] {21, 740, 741, -1, -20, Integer.MIN_VALUE, Integer.MAX_VALUE}) {
            due("end(" + n + ")", hall.end(n), false);
            due("count(2)", hall.count(2), 20);
        }
        hall.end(19);
        due("end(20) behind end(19)", hall.end(20), false);
        hall.feed(0x02020202, 0, 0, 0, 0);
        due("end(20)", hall.end(20), true);
        due("card", hall.card(0), 1);
        dueColumns(0, 0, "11111111111111111112");
    }

    private static boolean isOfACard(int b) {
        int digit = b >= 16 ? b - 16 : b;
        return digit <= 9 || digit == 15;
    }

    private static void bytesOfACard() {
        for (int b = 0; b < 256; b++) {
            if (b % 64 == 0) {
                fresh("card(): bytes being 0 to 9, or 15 (blank), and 16 more where it is PUNCHED OVER");
            }
            int[] first = columns("", 20);
            first[0] = b;
            tape(first);
            due("a first byte " + b, hall.card(b % 8), isOfACard(b) ? hall.cards(b % 8) : -1);
            int[] last = columns("", 20);
            last[19] = b;
            tape(last);
            due("a last byte " + b, hall.card(b % 8) != -1, isOfACard(b));
            if (isOfACard(b)) {
                due("column", hall.column(b % 8, hall.cards(b % 8) - 1, 20), b);
            }
        }
    }

    private static void twentyBytesOfACard() {
        fresh("card(): the tape's 20 bytes");
        for (int n : new int[] {0, 1, 19, 21, 40, 740}) {
            tape(columns("", n));
            due(n + " bytes", hall.card(0), -1);
            due("the tape is empty", hall.count(2), 0);
        }
        due("cards", hall.cards(0), 0);
        tape(columns("", 20));
        due("20 bytes", hall.card(0), 1);
    }

    private static void fullBox() {
        fresh("card(): NONE: it is full; BOXES hold 40 CARDS at most, in order");
        for (int k = 0; k < 40; k++) {
            due("card", card(4, k / 10 + "" + k % 10), k + 1);
        }
        due("a 41st CARD", card(4, "99"), -1);
        due("the tape is empty", hall.count(2), 0);
        due("cards", hall.cards(4), 40);
        for (int k = 0; k < 40; k++) {
            due("column", hall.column(4, k, 1) * 10 + hall.column(4, k, 2), k);
        }
        due("the BOX behind it", hall.cards(5), 0);
        due("a CARD for it", card(5, "77"), 1);
        due("empty", hall.empty(4), 40);
        due("a CARD again", card(4, "55"), 1);
        due("column", hall.column(4, 0, 1), 5);
        due("the other BOX keeps its own", hall.column(5, 0, 1), 7);
    }

    private static void cardsOfOtherBoxes() {
        fresh("BOXES hold 40 CARDS at most: those of others are others");
        card(4, "44444444444444444444");
        card(2, "22222222222222222222");
        // The tape's bytes behind the twentieth are of a CARD told before, and of no matter.
        tape(columns("99999999999999999999999", 40));
        hall.end(0);
        for (int k = 0; k < 40; k++) {
            card(3, "33333333333333333333");
        }
        dueColumns(4, 0, "44444444444444444444");
        dueColumns(2, 0, "22222222222222222222");
        dueColumns(3, 39, "33333333333333333333");
        dueColumns(3, 0, "33333333333333333333");
    }

    private static void cardsBehindAPass() {
        fresh("empty(), card(): new CARDS in a BOX whose CARDS a PASS has put in order");
        cards(0, "3", "1", "2", "0");
        due("pass", hall.pass(0, 1), true);
        cards(0, "51234567890123456789", "61234567890123456789", "71234567890123456789", "81234567890123456789");
        dueColumns(0, 0, "51234567890123456789");
        dueColumns(0, 1, "61234567890123456789");
        dueColumns(0, 2, "71234567890123456789");
        dueColumns(0, 3, "81234567890123456789");
    }

    /** Ten CARDS fill a BOX, each PUNCHED in its CARD CYCLE and in its three TOTAL CYCLES. */
    private static void fullBoxes() {
        fresh("BOXES 0 .. 7 hold 40 CARDS at most: all of them at once");
        cards(0, "0", "1", "2", "3", "4", "5", "6", "7", "8", "9");
        dueBoard("e-rc1.1;t1-rc1.1;t2-rc1.1;t3-rc1.1;rc1.1-m;e-b3;c1-q1;", 7);
        for (int box = 1; box < 8; box++) {
            due("END", hall.run(0, box), 0);
            due("cards", hall.cards(box), 40);
        }
        due("count(1)", hall.count(1), 290);
        for (int box = 1; box < 8; box++) {
            due("a 41st CARD", card(box, "5"), -1);
            due("the first CARD", hall.column(box, 0, 1), 0);
            due("the 37th CARD", hall.column(box, 36, 1), 9);
            due("the 40th CARD", hall.column(box, 39, 1), 15);
        }
        due("BOX 0 has room", card(0, "5"), 11);
        due("END of a RUN into a full BOX", hall.run(0, 7), 3);
        due("count(1)", hall.count(1), 291);
    }

    private static void tapeIsEmptyThen() {
        fresh("card(): (empty then, here and below)");
        tape(columns("1", 20));
        due("card", hall.card(0), 1);
        due("count(2)", hall.count(2), 0);
        due("the tape is no CARD again", hall.card(0), -1);
        text("e-m;");
        hall.board();
        due("behind board()", hall.count(2), 0);
        text("count 1 1;");
        hall.job();
        due("behind job()", hall.count(2), 0);
        lines("1");
        hall.missing(0);
        due("behind missing()", hall.count(2), 0);
        lines("1");
        hall.moves(0);
        due("behind moves()", hall.count(2), 0);
        tape(1);
        hall.needed(0);
        due("behind needed()", hall.count(2), 0);
        hall.keep(0);
        tape(0, 0, 0, 0, 9);
        due("friday", hall.friday(), 2);
        due("behind friday()", hall.count(2), 0);
    }

    private static void cardOfNoBox() {
        fresh("card(): NONE: no such BOX");
        for (int box = 0; box < 8; box++) {
            due("card", card(box, "3"), 1);
        }
        for (int box : NO_BOXES) {
            due("card(" + box + ")", card(box, "3"), -1);
            due("the tape is empty", hall.count(2), 0);
        }
        due("count(1)", hall.count(1), 8);
    }

    private static void cardsOfNoBox() {
        fresh("cards(): How many CARDS a BOX has; NONE: no such BOX");
        card(0, "1");
        card(7, "1");
        card(7, "1");
        due("cards(0)", hall.cards(0), 1);
        due("cards(6)", hall.cards(6), 0);
        due("cards(7)", hall.cards(7), 2);
        for (int box : NO_BOXES) {
            due("cards(" + box + ")", hall.cards(box), -1);
        }
    }

    private static void columnsThereAre() {
        fresh("column(): The byte of a COLUMN (1 to 20) of the k-th CARD of a BOX, as told in card()");
        card(0, "0123456789.ABCDEFGHI");
        card(0, "J_................._");
        card(7, "5..................6");
        dueColumns(0, 0, "0123456789.ABCDEFGHI");
        dueColumns(0, 1, "J_................._");
        due("column(7, 0, 1)", hall.column(7, 0, 1), 5);
        due("column(7, 0, 20)", hall.column(7, 0, 20), 6);
    }

    private static void columnsThereAreNot() {
        fresh("column(): NoSuchElementException: no such ones");
        card(0, "1");
        card(1, "1");
        card(1, "2");
        int[][] none = {{-1, 0, 1}, {8, 0, 1}, {0, -1, 1}, {0, 1, 1}, {0, 0, 0}, {0, 0, 21}, {0, 0, -1}, {2, 0, 1},
            {1, 2, 1}, {0, 40, 1}, {7, 40, 1}, {Integer.MIN_VALUE, 0, 1}, {Integer.MAX_VALUE, 0, 1},
            {0, Integer.MIN_VALUE, 1}, {0, Integer.MAX_VALUE, 1}, {0, 0, Integer.MIN_VALUE},
            {0, 0, Integer.MAX_VALUE}};
        for (int[] one : none) {
            dueThrow("column(" + one[0] + ", " + one[1] + ", " + one[2] + ")",
                () -> hall.column(one[0], one[1], one[2]));
        }
        due("column(1, 1, 1)", hall.column(1, 1, 1), 2);
        hall.empty(1);
        dueThrow("behind empty()", () -> hall.column(1, 0, 1));
    }

    private static void emptyOfNoBox() {
        fresh("empty(): how many CARDS it had; NONE: no such BOX");
        card(0, "1");
        card(7, "1");
        for (int box : NO_BOXES) {
            due("empty(" + box + ")", hall.empty(box), -1);
        }
        due("count(1)", hall.count(1), 2);
        due("empty(7)", hall.empty(7), 1);
        due("empty(0)", hall.empty(0), 1);
        due("empty(3)", hall.empty(3), 0);
    }

    private static void boxIsEmptyThen() {
        fresh("empty(): A BOX is empty then");
        cards(1, "1", "2");
        card(2, "3");
        due("empty", hall.empty(1), 2);
        due("cards", hall.cards(1), 0);
        due("the BOX behind it", hall.cards(2), 1);
        due("empty again", hall.empty(1), 0);
        due("card", card(1, "4"), 1);
        due("column", hall.column(1, 0, 1), 4);
        dueThrow("the CARD that was there", () -> hall.column(1, 1, 1));
    }

    private static void passOfNoBoxOrColumn() {
        fresh("pass(): true; false: no such BOX, COLUMN");
        cards(0, "2..................1", "1..................2");
        for (int box : NO_BOXES) {
            due("pass(" + box + ", 1)", hall.pass(box, 1), false);
        }
        for (int n : new int[] {0, -1, 21, Integer.MIN_VALUE, Integer.MAX_VALUE}) {
            due("pass(0, " + n + ")", hall.pass(0, n), false);
        }
        due("nothing is moved", hall.column(0, 0, 1), 2);
        due("pass(0, 1)", hall.pass(0, 1), true);
        due("column", hall.column(0, 0, 1), 1);
        due("pass(0, 20)", hall.pass(0, 20), true);
        due("column", hall.column(0, 0, 1), 2);
        due("pass of an empty BOX", hall.pass(7, 20), true);
    }

    private static void passPutsBlankAhead() {
        fresh("A PASS of a BOX by a COLUMN: CARDS in order by it, blank ahead of 0");
        cards(0, "9", "8", "7", "6", "5", "4", "3", "2", "1", "0", ".");
        due("pass", hall.pass(0, 1), true);
        int[] want = {15, 0, 1, 2, 3, 4, 5, 6, 7, 8, 9};
        for (int k = 0; k < 11; k++) {
            due("column(0, " + k + ", 1)", hall.column(0, k, 1), want[k]);
        }
    }

    private static void passOfEachOrder() {
        fresh("A PASS ..: CARDS in order by it, however they were");
        String[][] orders = {{"0", "1", "2"}, {"0", "2", "1"}, {"1", "0", "2"}, {"1", "2", "0"}, {"2", "0", "1"},
            {"2", "1", "0"}, {".", "1", "0"}, {"1", ".", "0"}, {"0", "9", "."}};
        for (String[] order : orders) {
            cards(0, order);
            due("pass", hall.pass(0, 1), true);
            String last = order[0].equals(".") || order[1].equals(".") ? ".01" : order[2].equals(".") ? ".09" : "012";
            for (int k = 0; k < 3; k++) {
                due("column(0, " + k + ", 1)", hall.column(0, k, 1), columns(last, 3)[k]);
            }
        }
    }

    private static void passLeavesLikeOnes() {
        fresh("A PASS ..: of like ones as they were");
        cards(0, "J1", "92", "_3", ".4", "05", "A6", "_7");
        due("pass", hall.pass(0, 1), true);
        int[] want = {3, 4, 7, 5, 6, 1, 2};
        for (int k = 0; k < 7; k++) {
            due("column(0, " + k + ", 2)", hall.column(0, k, 2), want[k]);
        }
        due("PUNCHED OVER stays", hall.column(0, 5, 1), 25);
        due("pass again", hall.pass(0, 1), true);
        due("column", hall.column(0, 0, 2), 3);
        due("column", hall.column(0, 6, 2), 2);
    }

    private static void passOfAFullBox() {
        fresh("A PASS of a BOX of 40 CARDS, and of no other BOX");
        for (int k = 39; k >= 0; k--) {
            card(3, k / 10 + "" + k % 10);
        }
        card(2, "9");
        card(2, "8");
        card(4, "9");
        card(4, "8");
        due("pass", hall.pass(3, 2), true);
        due("pass", hall.pass(3, 1), true);
        for (int k = 0; k < 40; k++) {
            due("column", hall.column(3, k, 1) * 10 + hall.column(3, k, 2), k);
        }
        due("the BOX ahead", hall.column(2, 0, 1), 9);
        due("the BOX behind", hall.column(4, 0, 1), 9);
        due("a 41st CARD", card(3, "1"), -1);
        due("empty", hall.empty(3), 40);
        due("card", card(3, "7"), 1);
        due("column", hall.column(3, 0, 1), 7);
    }

    private static void neededOfEightColumns() {
        fresh("needed(): the tape's bytes being COLUMNS (1 to 8)");
        cards(0, "2", "1");
        due("no COLUMN", hall.needed(0), -1);
        tape(1);
        due("one COLUMN", hall.needed(0), 1);
        tape(9, 8, 7, 6, 5, 4, 3, 1);
        due("eight COLUMNS", hall.needed(0), 1);
        due("the eighth one", hall.neededSet(), 128);
        tape(9, 8, 7, 6, 5, 4, 3, 2, 1);
        due("nine COLUMNS", hall.needed(0), -1);
        due("the tape is empty", hall.count(2), 0);
        due("neededSet stays", hall.neededSet(), 128);
        tape(columns("1", 740));
        due("740 bytes", hall.needed(0), -1);
        due("the tape is empty", hall.count(2), 0);
    }

    private static void neededColumnsThereAre() {
        for (int b = 0; b < 256; b++) {
            if (b % 64 == 0) {
                fresh("needed(): NONE: .. not as told: a COLUMN is 1 to 20");
                cards(0, "1", "2");
            }
            tape(b);
            due("COLUMN " + b, hall.needed(0), b >= 1 && b <= 20 ? 0 : -1);
            tape(1, b);
            due("COLUMNS 1 and " + b, hall.needed(0), b >= 1 && b <= 20 ? 0 : -1);
        }
    }

    private static void neededOfBytesBeyondTheEnd() {
        fresh("needed(): The tape has its first n bytes alone");
        cards(0, "21", "12");
        tape(2, 1, 99);
        hall.end(1);
        due("by COLUMN 2", hall.needed(0), 0);
        tape(1, 99);
        hall.end(1);
        due("by COLUMN 1", hall.needed(0), 1);
    }

    private static void neededOfNoBox() {
        fresh("needed(): NONE: no such BOX");
        cards(0, "2", "1");
        cards(7, "2", "1");
        tape(1);
        due("needed(0)", hall.needed(0), 1);
        tape(1);
        due("needed(7)", hall.needed(7), 1);
        for (int box : NO_BOXES) {
            tape(1);
            due("needed(" + box + ")", hall.needed(box), -1);
            due("the tape is empty", hall.count(2), 0);
            due("neededSet stays", hall.neededSet(), 1);
        }
        due("the BOX stays", hall.column(0, 0, 1), 2);
    }

    private static void neededIsFewest() {
        fresh("NEEDED passes: .. the fewest so that CARDS are in order then");
        cards(0, "111", "112", "121", "122", "211");
        tape(1, 2, 3);
        due("none", hall.needed(0), 0);
        due("neededSet", hall.neededSet(), 0);
        cards(0, "222", "221", "212", "211", "122", "121", "112", "111");
        tape(1, 2, 3);
        due("all three", hall.needed(0), 3);
        due("neededSet", hall.neededSet(), 7);
        cards(0, "22", "21", "12", "11");
        tape(2);
        due("the second alone", hall.needed(0), 1);
        tape(2, 1);
        due("both", hall.needed(0), 2);
        due("neededSet", hall.neededSet(), 3);
        // For each COLUMN there are two CARDS that no other PASS brings in order.
        cards(0, "22222222", "22222221", "22222212", "22222122", "22221222", "22212222", "22122222", "21222222",
            "12222222");
        tape(1, 2, 3, 4, 5, 6, 7, 8);
        due("eight", hall.needed(0), 8);
        due("neededSet", hall.neededSet(), 255);
    }

    private static void neededIsLeast() {
        fresh("of such the least set as bits (1 for the first told COLUMN, ..)");
        cards(0, "22", "11");
        tape(1, 2);
        due("either", hall.needed(0), 1);
        due("the first", hall.neededSet(), 1);
        tape(2, 1);
        due("either", hall.needed(0), 1);
        due("the first told", hall.neededSet(), 1);
        tape(20, 2, 1);
        due("either, blank ahead", hall.needed(0), 1);
        due("the second told", hall.neededSet(), 2);
        cards(0, "1222", "1111");
        tape(1, 2, 3, 4);
        due("one of three", hall.needed(0), 1);
        due("the least", hall.neededSet(), 2);
    }

    private static void neededBlankAhead() {
        fresh("(by the first COLUMN, of like ones by the next, ..; blank ahead of 0)");
        cards(0, ".", "0", "1");
        tape(1);
        due("in order", hall.needed(0), 0);
        cards(0, "0", ".");
        tape(1);
        due("not in order", hall.needed(0), 1);
        cards(0, "9", ".");
        tape(1);
        due("not in order", hall.needed(0), 1);
        cards(0, "A", "0", "_", ".");
        tape(1);
        due("not in order", hall.needed(0), 1);
        cards(0, "_", ".", "A", "0", "J", "9", "J");
        tape(1);
        due("PUNCHED OVER is of no matter", hall.needed(0), 0);
    }

    private static void neededOfLikeOnes() {
        fresh("(by the first COLUMN, of like ones by the next, ..)");
        cards(0, "12", "11", "21");
        tape(1, 2);
        due("needed", hall.needed(0), 2);
        due("neededSet", hall.neededSet(), 3);
        cards(0, "12", "11", "22");
        tape(1, 2);
        due("needed", hall.needed(0), 1);
        due("neededSet", hall.neededSet(), 2);
        tape(1);
        due("by the first alone", hall.needed(0), 0);
        tape(2);
        due("by the other alone", hall.needed(0), 1);
        cards(0, "11", "11", "11");
        tape(1, 2);
        due("all alike", hall.needed(0), 0);
    }

    private static void neededOfFewCards() {
        fresh("NEEDED passes of no CARD, of one");
        tape(1, 2, 3);
        due("no CARD", hall.needed(0), 0);
        due("neededSet", hall.neededSet(), 0);
        card(0, "987");
        tape(1, 2, 3);
        due("one CARD", hall.needed(0), 0);
    }

    private static void neededSetAheadOfAny() {
        fresh("neededSet(): by the latest needed() that was not NONE; 0 ahead of any");
        due("neededSet", hall.neededSet(), 0);
        due("a NONE", hall.needed(0), -1);
        due("neededSet", hall.neededSet(), 0);
        cards(0, "2", "1");
        tape(2, 1);
        due("needed", hall.needed(0), 1);
        due("neededSet", hall.neededSet(), 2);
        tape(21);
        due("a NONE", hall.needed(0), -1);
        due("neededSet", hall.neededSet(), 2);
        hall.pass(0, 1);
        due("neededSet", hall.neededSet(), 2);
        tape(2, 1);
        due("needed", hall.needed(0), 0);
        due("neededSet", hall.neededSet(), 0);
    }

    private static void countOfAnotherWhat() {
        fresh("count(): 0 WIRES, 1 CARDS in all BOXES, 2 bytes of the tape. NONE for another what");
        dueBoard("e-m;c1-q1;", 2);
        for (int box = 0; box < 8; box++) {
            for (int k = 0; k <= box; k++) {
                card(box, "1");
            }
        }
        tape(1, 2, 3, 4, 5);
        due("count(0)", hall.count(0), 2);
        due("count(1)", hall.count(1), 36);
        due("count(2)", hall.count(2), 5);
        for (int what : new int[] {-1, 3, Integer.MIN_VALUE, Integer.MAX_VALUE}) {
            due("count(" + what + ")", hall.count(what), -1);
        }
    }
}
