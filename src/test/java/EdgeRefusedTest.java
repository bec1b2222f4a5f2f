import java.util.NoSuchElementException;

/**
 * What later calls show behind a refused one: of two halls with the same past one is asked for what there is not, and
 * then both are looked at all round. A call that throws changes nothing; one that answers NONE, false, -2 or a FAULT
 * leaves all but the tape it reads (and what fault() tells).
 */
public final class EdgeRefusedTest extends Desk {
    private static final int THROWS = Integer.MIN_VALUE;
    private static final int LOW = Integer.MIN_VALUE;
    private static final int HIGH = Integer.MAX_VALUE;
    private static String dueLook = "";

    public static void main(String[] args) {
        fresh("a hall looked at");
        makeBusy();
        dueLook = look();
        due("looked at all round", dueLook.length() > 300, true);
        refusedFeeds();
        refusedCards();
        refusedColumns();
        refusedTexts();
        refusedRuns();
        refusedFigures();
        refusedPasses();
        refusedTrials();
        refusedLines();
        refusedPlans();
        refusedNeeded();
        refusedMoves();
        refusedPlaces();
        refusedFridays();
        questionsChangeNothing();
        tell();
    }

    /** A past with an answer behind each call that keeps one. */
    private static void makeBusy() {
        cards(0, "12A", "34", "12", ".5");
        cards(6, "21", "12");
        board("c1-p1;c2-p2;x4-p3;e-plus1;c2-i1.1;e-m;c1-q1;");
        hall.keep(0);
        hall.run(0, 5);
        hall.idle(0);
        hall.tests(0);
        board("c1-i1.1;e-plus1;");
        hall.unseen(0);
        job("field a 1 2;break 1 1;sum a 6 1;count 6 3;count 1 2;");
        hall.wanted(0, 1);
        tape(1, 2);
        hall.needed(0);
        board("c1-p1;c2-p2;");
        hall.keep(7);
        tape(0, 0, 3, 0, 99, 7, 0, 3, 0, 7);
        hall.friday();
        board("c1-p2;x3-p1;c2-p3;");
        lines(".12", ".34", ".12");
        hall.moves(0);
    }

    private static void see(StringBuilder b, int answer) {
        b.append(answer).append(' ');
    }

    private static int orThrows(Call call) {
        try {
            return call.answer();
        } catch (NoSuchElementException e) {
            return THROWS;
        }
    }

    /** All that can be seen, the tape apart; in the end by a RUN of the BOARD and the BOARD MADE for the JOB. */
    private static String look() {
        StringBuilder b = new StringBuilder();
        see(b, hall.count(0));
        for (int box = 0; box < 8; box++) {
            see(b, hall.cards(box));
        }
        for (int k = 0; k < 5; k++) {
            int which = k;
            for (int n = 1; n <= 4; n++) {
                int column = n;
                see(b, orThrows(() -> hall.column(0, which, column)));
            }
            see(b, orThrows(() -> hall.column(5, which, 1)));
            see(b, orThrows(() -> hall.column(6, which, 1)));
        }
        b.append("| ");
        for (int what = 0; what < 7; what++) {
            see(b, hall.ran(what));
        }
        for (int line = 0; line < 5; line++) {
            int which = line;
            for (int n = 1; n <= 3; n++) {
                int bar = n;
                see(b, orThrows(() -> hall.bar(which, bar)));
                see(b, orThrows(() -> hall.wantedAt(which, bar + 5)));
            }
        }
        for (int w = 1; w <= 4; w++) {
            int which = w;
            see(b, orThrows(() -> hall.wheel(which)));
        }
        b.append("| ");
        for (int k = 0; k < 4; k++) {
            see(b, hall.wire(k));
            see(b, hall.unseenAt(k));
            see(b, hall.fridayAt(k));
            see(b, hall.wants(k));
            for (int what = 0; what < 3; what++) {
                see(b, hall.move(k, what));
            }
        }
        see(b, hall.testSet());
        see(b, hall.shown());
        see(b, hall.runs());
        see(b, hall.neededSet());
        b.append("| ");
        see(b, hall.apart(0, 7));
        for (int k = 1; k < 7; k++) {
            see(b, hall.apart(k, k));
        }
        lookByRuns(b);
        return b.toString();
    }

    private static void lookByRuns(StringBuilder b) {
        b.append("| ");
        see(b, hall.run(0, 3));
        for (int line = 0; line < 4; line++) {
            int which = line;
            for (int n = 1; n <= 3; n++) {
                int bar = n;
                see(b, orThrows(() -> hall.bar(which, bar)));
            }
        }
        see(b, hall.make(1));
        see(b, hall.same(0, 1));
        see(b, hall.wanted(0, 0));
        see(b, hall.use(0));
        see(b, hall.use(7));
        b.append('.');
    }

    /** A refused call that reads no tape: the tape has its bytes still. */
    private static void refused(String what, Call call, int want) {
        fresh("A call that throws changes nothing; " + what);
        makeBusy();
        hall.feed(0x01020304, 0x05060708, 0x09000102, 0x03040506, 0x07080900);
        hall.end(19);
        due(what, orThrows(call), want);
        due("the tape stays", hall.count(2), 19);
        due("fault stays", hall.fault(), 0);
        hall.feed(0x05050505, 0, 0, 0, 0);
        hall.end(20);
        due("the tape is a CARD", hall.card(4), 1);
        dueColumns(4, 0, "12345678901234567895");
        hall.empty(4);
        dueText(what, look(), dueLook);
    }

    /** A refused call that reads the tape, which is empty then. */
    private static void refusedTape(String what, int[] bytes, Call call, int want) {
        fresh(what + " is refused");
        makeBusy();
        tape(bytes);
        due(what, orThrows(call), want);
        due("the tape is empty", hall.count(2), 0);
        dueText(what, look(), dueLook);
    }

    private static int[] bytesOf(String s) {
        int[] b = new int[s.length()];
        for (int i = 0; i < b.length; i++) {
            b[i] = s.charAt(i);
        }
        return b;
    }

    private static int flag(boolean fine) {
        return fine ? 1 : 0;
    }

    private static void refusedFeeds() {
        for (int n : new int[] {-1, 20, 740, LOW, HIGH}) {
            refused("end(" + n + ")", () -> flag(hall.end(n)), 0);
        }
        fresh("feed() of a full tape");
        makeBusy();
        for (int k = 0; k < 37; k++) {
            hall.feed(0x05050505, 0x05050505, 0x05050505, 0x05050505, 0x05050505);
        }
        due("feed", hall.feed(0, 0, 0, 0, 0), -1);
        due("count(2)", hall.count(2), 740);
        hall.end(20);
        due("card", hall.card(4), 1);
        dueColumns(4, 0, "55555555555555555555");
        hall.empty(4);
        dueText("feed", look(), dueLook);
    }

    private static void refusedCards() {
        int[] good = columns("777", 20);
        for (int box : new int[] {-1, 8, LOW, HIGH}) {
            refusedTape("card(" + box + ")", good, () -> hall.card(box), -1);
            refused("cards(" + box + ")", () -> hall.cards(box), -1);
            refused("empty(" + box + ")", () -> hall.empty(box), -1);
        }
        refusedTape("card of 19 bytes", columns("777", 19), () -> hall.card(0), -1);
        refusedTape("card of 21 bytes", columns("777", 21), () -> hall.card(0), -1);
        refusedTape("card of none", new int[0], () -> hall.card(0), -1);
        int[] bad = columns("777", 20);
        bad[19] = 10;
        refusedTape("card with a byte 10", bad, () -> hall.card(0), -1);
    }

    private static void refusedColumns() {
        int[][] none = {{-1, 0, 1}, {8, 0, 1}, {0, -1, 1}, {0, 4, 1}, {0, 0, 0}, {0, 0, 21}, {1, 0, 1},
            {LOW, LOW, LOW}, {HIGH, HIGH, HIGH}};
        for (int[] one : none) {
            refused("column(" + one[0] + ", " + one[1] + ", " + one[2] + ")",
                () -> hall.column(one[0], one[1], one[2]), THROWS);
        }
    }

    private static void refusedTexts() {
        refusedTape("board with a FAULT 1", bytesOf("e-p1;c1-p2;c1-"), () -> hall.board(), -15);
        refusedTape("board with a FAULT 2", bytesOf("e-p1;c1-p2;c1-p13;"), () -> hall.board(), -16);
        refusedTape("board with a FAULT 3", bytesOf("e-p1;c1-p2;c1-p1;"), () -> hall.board(), -15);
        refusedTape("board with a FAULT 4", bytesOf(wires(61)), () -> hall.board(), -421);
        refusedTape("board of 701 bytes", bytesOf("e-p1;" + times(" ", 696)), () -> hall.board(), -701);
        refusedTape("job with a FAULT 1", bytesOf("field a 3 4;break 2 3;count 1 1;x"), () -> hall.job(), -33);
        refusedTape("job with a FAULT 2", bytesOf("field a 3 4;break 2 3;count 1 4;"), () -> hall.job(), -31);
        refusedTape("job with a FAULT 3", bytesOf("field a 3 4;break 2 3;sum b 1 1;"), () -> hall.job(), -27);
        refusedTape("job with a FAULT 4", bytesOf(times("count 1 1;", 9)), () -> hall.job(), -81);
        refusedTape("job of 301 bytes", bytesOf("count 1 1;" + times(" ", 291)), () -> hall.job(), -301);
    }

    private static void refusedRuns() {
        int[][] none = {{-1, 0}, {8, 0}, {0, -1}, {0, 8}, {0, 0}, {7, 7}, {-1, -1}, {8, 8}, {LOW, 0}, {0, HIGH}};
        for (int[] one : none) {
            refused("run(" + one[0] + ", " + one[1] + ")", () -> hall.run(one[0], one[1]), -1);
        }
    }

    private static void refusedFigures() {
        for (int what : new int[] {-1, 7, LOW, HIGH}) {
            refused("ran(" + what + ")", () -> hall.ran(what), -1);
        }
        int[][] none = {{-1, 1}, {4, 1}, {60, 1}, {0, 0}, {0, 13}, {LOW, LOW}, {HIGH, HIGH}};
        for (int[] one : none) {
            refused("bar(" + one[0] + ", " + one[1] + ")", () -> hall.bar(one[0], one[1]), THROWS);
            refused("wantedAt(" + one[0] + ", " + one[1] + ")", () -> hall.wantedAt(one[0], one[1]), THROWS);
        }
        for (int w : new int[] {0, 5, -1, LOW, HIGH}) {
            refused("wheel(" + w + ")", () -> hall.wheel(w), THROWS);
        }
        for (int what : new int[] {-1, 3, LOW, HIGH}) {
            refused("count(" + what + ")", () -> hall.count(what), -1);
        }
    }

    private static void refusedPasses() {
        int[][] none = {{-1, 1}, {8, 1}, {0, 0}, {0, 21}, {6, -1}, {LOW, LOW}, {HIGH, HIGH}};
        for (int[] one : none) {
            refused("pass(" + one[0] + ", " + one[1] + ")", () -> flag(hall.pass(one[0], one[1])), 0);
        }
    }

    private static void refusedTrials() {
        for (int box : new int[] {-1, 8, LOW, HIGH}) {
            refused("idle(" + box + ")", () -> hall.idle(box), -1);
            refused("tests(" + box + ")", () -> hall.tests(box), -1);
            refused("unseen(" + box + ")", () -> hall.unseen(box), -1);
        }
        for (int k : new int[] {-1, 60, 100, LOW, HIGH}) {
            refused("wire(" + k + ")", () -> hall.wire(k), -1);
            refused("unseenAt(" + k + ")", () -> hall.unseenAt(k), -1);
        }
    }

    private static void refusedLines() {
        int[] good = columns("1", 12);
        for (int box : new int[] {-1, 8, LOW, HIGH}) {
            refusedTape("missing(" + box + ")", good, () -> hall.missing(box), -1);
            refusedTape("moves(" + box + ")", good, () -> hall.moves(box), -1);
        }
        int[] bad = columns("1", 24);
        bad[23] = 16;
        refusedTape("missing with a byte 16", bad, () -> hall.missing(0), -1);
        refusedTape("moves with a byte 16", bad, () -> hall.moves(0), -1);
        refusedTape("missing of 13 bytes", columns("1", 13), () -> hall.missing(0), -1);
        refusedTape("moves of 13 bytes", columns("1", 13), () -> hall.moves(0), -1);
    }

    private static void refusedPlans() {
        for (int r : new int[] {-1, 2, LOW, HIGH}) {
            refused("wants(" + r + ")", () -> hall.wants(r), -1);
            refused("make(" + r + ")", () -> hall.make(r), -1);
            refused("wanted(0, " + r + ")", () -> hall.wanted(0, r), -1);
            refused("same(0, " + r + ")", () -> hall.same(0, r), -1);
        }
        for (int box : new int[] {-1, 8, LOW, HIGH}) {
            refused("wanted(" + box + ", 0)", () -> hall.wanted(box, 0), -1);
            refused("same(" + box + ", 0)", () -> hall.same(box, 0), -1);
        }
    }

    private static void refusedNeeded() {
        for (int box : new int[] {-1, 8, LOW, HIGH}) {
            refusedTape("needed(" + box + ")", new int[] {2}, () -> hall.needed(box), -1);
        }
        refusedTape("needed of none", new int[0], () -> hall.needed(0), -1);
        refusedTape("needed of nine", new int[] {2, 1, 3, 4, 5, 6, 7, 8, 9}, () -> hall.needed(0), -1);
        refusedTape("needed of COLUMN 0", new int[] {2, 0}, () -> hall.needed(0), -1);
        refusedTape("needed of COLUMN 21", new int[] {21, 2}, () -> hall.needed(0), -1);
    }

    private static void refusedMoves() {
        int[][] none = {{-1, 0}, {99, 0}, {100, 0}, {0, -1}, {0, 3}, {LOW, LOW}, {HIGH, HIGH}};
        for (int[] one : none) {
            refused("move(" + one[0] + ", " + one[1] + ")", () -> hall.move(one[0], one[1]), -1);
        }
    }

    private static void refusedPlaces() {
        for (int k : new int[] {-1, 8, LOW, HIGH}) {
            refused("keep(" + k + ")", () -> flag(hall.keep(k)), 0);
            refused("use(" + k + ")", () -> hall.use(k), -1);
            refused("apart(0, " + k + ")", () -> hall.apart(0, k), -1);
            refused("apart(" + k + ", 0)", () -> hall.apart(k, 0), -1);
            refused("fridayAt(" + k + ")", () -> hall.fridayAt(k), -1);
        }
        refused("use of none", () -> hall.use(3), -1);
        refused("apart of none", () -> hall.apart(7, 3), -1);
    }

    private static void refusedFridays() {
        refusedTape("friday of none", new int[0], () -> hall.friday(), -2);
        refusedTape("friday of four bytes", new int[] {0, 0, 0, 99}, () -> hall.friday(), -2);
        refusedTape("friday of six bytes", new int[] {0, 0, 0, 99, 99, 0}, () -> hall.friday(), -2);
        refusedTape("friday of a place with none", new int[] {0, 0, 0, 9, 9, 1, 0, 0, 9, 9}, () -> hall.friday(), -2);
        refusedTape("friday of no place", new int[] {0, 0, 0, 9, 9, 8, 0, 0, 9, 9}, () -> hall.friday(), -2);
        refusedTape("friday of seven", new int[35], () -> hall.friday(), -2);
        refusedTape("friday that none does", new int[] {0, 0, 1, 0, 1}, () -> hall.friday(), -1);
    }

    /** Questions that are answered leave the rest as it was, too: they are no RUN, and punch into no BOX of the hall. */
    private static void questionsChangeNothing() {
        refused("cards", () -> hall.cards(0), 4);
        refused("column", () -> hall.column(0, 0, 3), 16);
        refused("fault", () -> hall.fault(), 0);
        refused("ran", () -> hall.ran(0), 4);
        refused("bar", () -> hall.bar(0, 1), 1);
        refused("wheel", () -> hall.wheel(1), 13);
        refused("same", () -> hall.same(0, 0), 0);
        refused("runs", () -> hall.runs(), 2);
        refused("apart", () -> hall.apart(0, 7), 5);
        refused("count", () -> hall.count(1), 10);
        refused("end(19)", () -> flag(hall.end(19)), 1);
    }
}
