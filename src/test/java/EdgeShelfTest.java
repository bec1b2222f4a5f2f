/** The boundary cases of the SHELF and of FRIDAY (part 5, promises 34 to 38). */
public final class EdgeShelfTest extends Desk {
    private static final int[] NO_PLACES = {-1, 8, 9, Integer.MIN_VALUE, Integer.MAX_VALUE};

    public static void main(String[] args) {
        eightBoardsMayBeKept();
        keepOfNoPlace();
        keptAgain();
        useOfNoPlace();
        useOfNone();
        useLeavesWhatIsKept();
        apartOfNoPlace();
        apartOfNone();
        apartWhicheverEnd();
        apartOfSixtyWires();
        fridayOfOneToSix();
        fridayBytesFiveByFive();
        fridayPlaces();
        fridayHigherByteFirst();
        fridayMustHaveEnded();
        fridayEachMustHaveEnded();
        fridayCosts();
        fridayEndsFirst();
        fridayOfLikeOnesTheFirst();
        fridayOfLikeOnesOfSix();
        fridayEachOrder();
        fridayOfBytesBeyondTheEnd();
        fridayNoneDoes();
        fridayLatestMinutes();
        fridayAtThereIs();
        fridayAtOfTheLatest();
        tell();
    }

    private static void kept(int place, String text) {
        due("board " + text, board(text) >= 0, true);
        due("keep(" + place + ")", hall.keep(place), true);
    }

    private static void eightBoardsMayBeKept() {
        fresh("SHELF: 8 BOARDS may be kept");
        for (int k = 0; k < 8; k++) {
            kept(k, wires(k + 1));
        }
        for (int k = 0; k < 8; k++) {
            due("use(" + k + ")", hall.use(k), k + 1);
        }
        due("a ninth", hall.keep(8), false);
        due("use(0)", hall.use(0), 1);
        due("use(7)", hall.use(7), 8);
        kept(0, "");
        kept(7, wires(60));
        due("use(0)", hall.use(0), 0);
        due("use(7)", hall.use(7), 60);
    }

    private static void keepOfNoPlace() {
        fresh("keep(): true; false: no such one");
        kept(0, "e-m;");
        dueBoard("e-p1;e-p2;", 2);
        for (int k : NO_PLACES) {
            due("keep(" + k + ")", hall.keep(k), false);
        }
        due("the BOARD stays", hall.count(0), 2);
        due("use(7)", hall.use(7), -1);
        due("use(0)", hall.use(0), 1);
    }

    private static void keptAgain() {
        fresh("keep(): The BOARD is kept in the SHELF's place k: also where one was");
        kept(3, "e-p1;e-p2;");
        kept(3, "e-p3;");
        due("use(3)", hall.use(3), 1);
        cards(0, "1");
        due("END", hall.run(0, 7), 0);
        dueLines("..1");
    }

    private static void useOfNoPlace() {
        fresh("use(): NONE: no such place");
        kept(0, "e-m;");
        dueBoard("e-p1;e-p2;", 2);
        for (int k : NO_PLACES) {
            due("use(" + k + ")", hall.use(k), -1);
            due("the BOARD stays", hall.count(0), 2);
        }
        due("use(0)", hall.use(0), 1);
    }

    private static void useOfNone() {
        fresh("use(): NONE: .. none is kept there");
        dueBoard("e-p1;e-p2;", 2);
        for (int k = 0; k < 8; k++) {
            due("use(" + k + ")", hall.use(k), -1);
        }
        due("the BOARD stays", hall.count(0), 2);
        // The empty BOARD is one that may be kept.
        kept(5, "");
        dueBoard("e-p1;", 1);
        due("use(5)", hall.use(5), 0);
        due("count(0)", hall.count(0), 0);
        due("use(4)", hall.use(4), -1);
        due("use(6)", hall.use(6), -1);
    }

    private static void useLeavesWhatIsKept() {
        fresh("use(): The BOARD is the one kept in place k: what is kept stays");
        kept(0, "e-p1;");
        kept(1, "e-p2;e-p3;");
        due("use(0)", hall.use(0), 1);
        dueBoard("e-p4;e-p5;e-p6;", 3);
        due("use(0)", hall.use(0), 1);
        due("use(1)", hall.use(1), 2);
        due("apart", hall.apart(0, 1), 3);
        dueJob("count 1 1;", 1);
        hall.make(0);
        due("use(1)", hall.use(1), 2);
        cards(0, "1");
        due("END", hall.run(0, 7), 0);
        dueLines(".11");
    }

    private static void apartOfNoPlace() {
        fresh("apart(): NONE: no such ones");
        kept(0, "e-m;");
        kept(7, "");
        due("apart(0, 7)", hall.apart(0, 7), 1);
        due("apart(7, 0)", hall.apart(7, 0), 1);
        for (int k : NO_PLACES) {
            due("apart(" + k + ", 0)", hall.apart(k, 0), -1);
            due("apart(0, " + k + ")", hall.apart(0, k), -1);
            due("apart(" + k + ", " + k + ")", hall.apart(k, k), -1);
        }
    }

    private static void apartOfNone() {
        fresh("apart(): NONE: .. none is kept there");
        due("apart(0, 0)", hall.apart(0, 0), -1);
        kept(0, "e-m;");
        due("apart(0, 0)", hall.apart(0, 0), 0);
        for (int k = 1; k < 8; k++) {
            due("apart(0, " + k + ")", hall.apart(0, k), -1);
            due("apart(" + k + ", 0)", hall.apart(k, 0), -1);
        }
        kept(1, "");
        due("the empty one", hall.apart(0, 1), 1);
        due("the empty one and itself", hall.apart(1, 1), 0);
    }

    private static void apartWhicheverEnd() {
        fresh("APART: how many WIRES only one of two has (whichever end is told first)");
        kept(0, "e-p1;c1-p2;");
        kept(1, "p2-c1;p1-e;");
        due("turned", hall.apart(0, 1), 0);
        kept(1, "p1-e;p2-c2;");
        due("one other", hall.apart(0, 1), 2);
        kept(1, "e-p2;c1-p1;");
        due("all others", hall.apart(0, 1), 4);
        kept(1, "e-c1;p1-p2;");
        due("the same HUBS", hall.apart(0, 1), 4);
        kept(1, "e-p1;");
        due("one less", hall.apart(0, 1), 1);
        kept(0, "c1-rc1.1;c1-rc1.1;");
        kept(1, "rc1.1-c1;");
        due("twice and once", hall.apart(0, 1), 1);
        due("once and twice", hall.apart(1, 0), 1);
        kept(1, "rc1.1-c1;e-m;c1-rc1.1;");
        due("twice and twice", hall.apart(0, 1), 1);
        due("twice and twice", hall.apart(1, 0), 1);
    }

    private static void apartOfSixtyWires() {
        fresh("APART of sixty WIRES each");
        kept(0, wires(60));
        kept(1, wires(59) + "e-p1;");
        due("the last one", hall.apart(0, 1), 2);
        kept(2, "");
        due("none", hall.apart(0, 2), 60);
        due("board", board(wires(60).replace('a', 'x')), 60);
        hall.keep(3);
        due("all", hall.apart(0, 3), 120);
        tape(0, 0, 0, 255, 255, 3, 0, 0, 255, 255);
        due("friday", hall.friday(), 360);
    }

    /** n of them in place 0, a minute each, all the time there is. */
    private static int[] told(int n) {
        int[] b = new int[5 * n];
        for (int i = 0; i < n; i++) {
            b[5 * i + 2] = 1;
            b[5 * i + 3] = 255;
            b[5 * i + 4] = 255;
        }
        return b;
    }

    private static void dueFriday(int want, int... order) {
        due("friday", hall.friday(), want);
        for (int k = 0; k < order.length; k++) {
            due("fridayAt(" + k + ")", hall.fridayAt(k), order[k]);
        }
        due("fridayAt behind the last", hall.fridayAt(order.length), -1);
    }

    private static void fridayOfOneToSix() {
        fresh("friday(): 1 to 6 of them; -2: not as told");
        kept(0, "");
        due("none", hall.friday(), -2);
        for (int n = 1; n <= 6; n++) {
            tape(told(n));
            due(n + " of them", hall.friday(), n);
        }
        tape(told(7));
        due("seven", hall.friday(), -2);
        due("the tape is empty", hall.count(2), 0);
        due("fridayAt(5) stays", hall.fridayAt(5), 5);
        tape(told(148));
        due("740 bytes", hall.friday(), -2);
        due("the tape is empty", hall.count(2), 0);
    }

    private static void fridayBytesFiveByFive() {
        fresh("friday(): five by five; -2: not as told");
        kept(0, "");
        for (int n = 1; n <= 36; n++) {
            int[] b = new int[n];
            System.arraycopy(told(8), 0, b, 0, n);
            tape(b);
            due(n + " bytes", hall.friday(), n % 5 == 0 && n <= 30 ? n / 5 : -2);
            due("the tape is empty", hall.count(2), 0);
        }
    }

    private static void fridayPlaces() {
        for (int place = 0; place < 256; place++) {
            if (place % 64 == 0) {
                fresh("friday(): a place; -2: not as told");
                kept(0, "");
                kept(3, "e-m;");
                kept(7, "e-m;e-halt;");
            }
            int want = place == 0 ? 0 : place == 3 ? 2 : place == 7 ? 4 : -2;
            tape(place, 0, 0, 1, 0);
            due("place " + place, hall.friday(), want);
            tape(0, 0, 0, 1, 0, place, 0, 0, 1, 0);
            due("places 0 and " + place, hall.friday(), want);
        }
    }

    private static void fridayHigherByteFirst() {
        fresh("friday(): the minutes it runs, the minute by which it must have ended (two bytes each, the higher one first)");
        kept(0, "");
        tape(0, 1, 0, 1, 0);
        due("256 minutes", hall.friday(), 256);
        tape(0, 0, 1, 1, 0);
        due("1 minute", hall.friday(), 1);
        tape(0, 1, 0, 0, 1);
        due("256 minutes, ended by 1", hall.friday(), -1);
        tape(0, 0, 255, 1, 0);
        due("255 minutes", hall.friday(), 255);
        tape(0, 1, 0, 0, 255);
        due("256 minutes, ended by 255", hall.friday(), -1);
        tape(0, 128, 0, 255, 255);
        due("32768 minutes", hall.friday(), 32768);
        tape(0, 255, 255, 255, 255);
        due("65535 minutes", hall.friday(), 65535);
        tape(0, 255, 255, 255, 254);
        due("65535 minutes, ended by 65534", hall.friday(), -1);
    }

    private static void fridayMustHaveEnded() {
        fresh("FRIDAY: .. and must have ended by a told one");
        kept(0, "e-p1;c1-p2;");
        tape(0, 0, 6, 0, 10);
        dueFriday(10, 0);
        tape(0, 0, 6, 0, 9);
        due("a minute late", hall.friday(), -1);
        tape(0, 0, 0, 0, 4);
        dueFriday(4, 0);
        tape(0, 0, 0, 0, 3);
        due("a minute late by its WIRES", hall.friday(), -1);
        kept(0, "");
        tape(0, 0, 0, 0, 0);
        dueFriday(0, 0);
        tape(0, 0, 1, 0, 0);
        due("a minute late", hall.friday(), -1);
    }

    private static void fridayEachMustHaveEnded() {
        fresh("FRIDAY: each must have ended by its own minute");
        kept(0, "");
        tape(0, 0, 5, 0, 15, 0, 0, 5, 0, 10, 0, 0, 5, 0, 5);
        dueFriday(15, 2, 1, 0);
        tape(0, 0, 5, 0, 15, 0, 0, 5, 0, 9, 0, 0, 5, 0, 5);
        due("none does", hall.friday(), -1);
        tape(0, 0, 5, 0, 14, 0, 0, 5, 0, 10, 0, 0, 5, 0, 5);
        due("none does", hall.friday(), -1);
        tape(0, 0, 5, 0, 15, 0, 0, 5, 0, 10, 0, 0, 5, 0, 4);
        due("none does", hall.friday(), -1);
        tape(0, 0, 5, 0, 30, 0, 0, 5, 0, 25, 0, 0, 5, 0, 20, 0, 0, 5, 0, 15, 0, 0, 5, 0, 10, 0, 0, 5, 0, 5);
        dueFriday(30, 5, 4, 3, 2, 1, 0);
    }

    private static void fridayCosts() {
        fresh("to set a BOARD costs 2 minutes for each WIRE by which it is APART from the one ahead (from the empty at first)");
        kept(0, "e-p1;e-p2;e-p3;");
        kept(1, "p1-e;e-p4;");
        kept(2, "");
        tape(0, 0, 0, 1, 0);
        dueFriday(6, 0);
        tape(2, 0, 0, 1, 0);
        dueFriday(0, 0);
        tape(0, 0, 0, 0, 6, 1, 0, 0, 1, 0);
        dueFriday(12, 0, 1);
        tape(0, 0, 0, 1, 0, 1, 0, 0, 1, 0);
        dueFriday(10, 1, 0);
        tape(0, 0, 0, 1, 0, 0, 0, 0, 1, 0);
        dueFriday(6, 0, 1);
        // To set the empty BOARD behind another takes its WIRES out.
        tape(1, 0, 0, 0, 4, 2, 0, 0, 1, 0);
        dueFriday(4, 1, 0);
        tape(1, 0, 1, 0, 5, 2, 0, 1, 1, 0);
        dueFriday(10, 0, 1);
    }

    private static void fridayEndsFirst() {
        fresh("FRIDAY: .. the order that ends first");
        kept(0, "e-p1;e-p2;");
        kept(1, "e-p1;");
        kept(2, "e-p1;e-p2;e-p3;");
        tape(2, 0, 1, 1, 0, 0, 0, 1, 1, 0, 1, 0, 1, 1, 0);
        dueFriday(9, 2, 1, 0);
        tape(2, 0, 1, 0, 7, 0, 0, 1, 1, 0, 1, 0, 1, 1, 0);
        dueFriday(13, 0, 1, 2);
        tape(1, 0, 1, 1, 0, 2, 0, 1, 1, 0, 0, 0, 1, 0, 5);
        dueFriday(13, 2, 0, 1);
    }

    private static void fridayOfLikeOnesTheFirst() {
        fresh("FRIDAY: .. of like ones the first (one by one the one told first)");
        kept(0, "");
        kept(1, "e-p1;");
        kept(2, "e-p2;");
        tape(told(6));
        dueFriday(6, 0, 1, 2, 3, 4, 5);
        tape(2, 0, 0, 1, 0, 1, 0, 0, 1, 0);
        dueFriday(6, 0, 1);
        tape(1, 0, 0, 1, 0, 2, 0, 0, 1, 0, 1, 0, 0, 1, 0);
        // 1, 1, 2 and 2, 1, 1 cost 6 each: the one told first is first.
        dueFriday(6, 0, 2, 1);
        // The empty one first, or between the others: 6 each.
        tape(1, 0, 0, 1, 0, 2, 0, 0, 1, 0, 0, 0, 0, 1, 0);
        dueFriday(6, 0, 2, 1);
        // By the minutes the one told second must be first, and of the rest the one told first.
        tape(0, 0, 5, 1, 0, 0, 0, 5, 0, 5, 0, 0, 5, 1, 0);
        dueFriday(15, 1, 0, 2);
        tape(0, 0, 5, 1, 0, 0, 0, 5, 1, 0, 0, 0, 5, 0, 10);
        dueFriday(15, 0, 2, 1);
    }

    private static void fridayOfLikeOnesOfSix() {
        fresh("FRIDAY: .. of like ones the first: one of six has to be first");
        kept(0, "");
        for (int first = 0; first < 6; first++) {
            int[] b = told(6);
            b[5 * first + 3] = 0;
            b[5 * first + 4] = 1;
            tape(b);
            due("friday", hall.friday(), 6);
            for (int k = 0; k < 6; k++) {
                due("fridayAt(" + k + ")", hall.fridayAt(k), k == 0 ? first : k <= first ? k - 1 : k);
            }
        }
        fresh("FRIDAY: .. of like ones the first: one of six has to be third at the latest");
        kept(0, "");
        for (int third = 3; third < 6; third++) {
            int[] b = told(6);
            b[5 * third + 3] = 0;
            b[5 * third + 4] = 3;
            tape(b);
            due("friday", hall.friday(), 6);
            for (int k = 0; k < 6; k++) {
                due("fridayAt(" + k + ")", hall.fridayAt(k), k < 2 ? k : k == 2 ? third : k <= third ? k - 1 : k);
            }
        }
    }

    /** By the minutes told there is one order alone, each of the 720 in turn. */
    private static void fridayEachOrder() {
        int[] order = {0, 1, 2, 3, 4, 5};
        tryOrders(order, 0, new int[1]);
    }

    private static void tryOrders(int[] order, int from, int[] tried) {
        if (from == order.length) {
            if (tried[0] % 40 == 0) {
                fresh("FRIDAY: some of the SHELF in some order: each order of six");
                kept(0, "");
            }
            tried[0]++;
            int[] b = told(6);
            for (int k = 0; k < 6; k++) {
                b[5 * order[k] + 3] = 0;
                b[5 * order[k] + 4] = k + 1;
            }
            tape(b);
            dueFriday(6, order);
            return;
        }
        for (int i = from; i < order.length; i++) {
            swap(order, from, i);
            tryOrders(order, from + 1, tried);
            swap(order, from, i);
        }
    }

    private static void swap(int[] order, int i, int j) {
        int was = order[i];
        order[i] = order[j];
        order[j] = was;
    }

    private static void fridayOfBytesBeyondTheEnd() {
        fresh("friday(): The tape has its first n bytes alone");
        kept(0, "");
        tape(0, 0, 3, 1, 0, 9, 0, 0, 0, 0);
        hall.end(5);
        dueFriday(3, 0);
        tape(0, 0, 3, 1, 0, 0, 0, 4, 1, 0, 9, 9, 9, 9, 9);
        hall.end(10);
        dueFriday(7, 0, 1);
    }

    private static void fridayNoneDoes() {
        fresh("friday(): NONE: none does");
        kept(0, "e-p1;");
        tape(0, 0, 1, 0, 3);
        dueFriday(3, 0);
        tape(0, 0, 1, 0, 2);
        due("NONE", hall.friday(), -1);
        due("the tape is empty", hall.count(2), 0);
        tape(0, 0, 1, 0, 3, 0, 0, 1, 0, 3);
        due("NONE", hall.friday(), -1);
        due("fridayAt(0) stays", hall.fridayAt(0), 0);
        due("fridayAt(1)", hall.fridayAt(1), -1);
    }

    private static void fridayLatestMinutes() {
        fresh("friday(): when all have ended: minutes beyond two bytes");
        kept(0, "");
        tape(0, 255, 255, 255, 255, 0, 255, 255, 255, 255);
        due("no minute beyond 65535 is told", hall.friday(), -1);
        tape(0, 255, 254, 255, 255, 0, 0, 1, 255, 255);
        dueFriday(65535, 0, 1);
        tape(0, 255, 255, 255, 255, 0, 0, 0, 0, 0);
        dueFriday(65535, 1, 0);
        int[] six = new int[30];
        java.util.Arrays.fill(six, 255);
        for (int i = 0; i < 6; i++) {
            six[5 * i] = 0;
        }
        tape(six);
        due("six of the longest", hall.friday(), -1);
    }

    private static void fridayAtThereIs() {
        fresh("fridayAt(): NONE: there is none such, or ahead of any");
        for (int k = -1; k <= 1; k++) {
            due("fridayAt(" + k + ")", hall.fridayAt(k), -1);
        }
        due("not as told", hall.friday(), -2);
        kept(0, "");
        tape(0, 0, 1, 0, 0);
        due("none does", hall.friday(), -1);
        due("fridayAt(0)", hall.fridayAt(0), -1);
        tape(told(3));
        dueFriday(3, 0, 1, 2);
        for (int k : new int[] {-1, 3, 5, 6, Integer.MIN_VALUE, Integer.MAX_VALUE}) {
            due("fridayAt(" + k + ")", hall.fridayAt(k), -1);
        }
    }

    private static void fridayAtOfTheLatest() {
        fresh("fridayAt(): in the latest friday() that told a minute");
        kept(0, "");
        tape(0, 0, 5, 1, 0, 0, 0, 5, 0, 5);
        dueFriday(10, 1, 0);
        tape(0, 0, 5, 0, 0);
        due("NONE", hall.friday(), -1);
        due("fridayAt(0)", hall.fridayAt(0), 1);
        due("fridayAt(1)", hall.fridayAt(1), 0);
        tape(9, 0, 5, 1, 0);
        due("not as told", hall.friday(), -2);
        tape(0, 0, 5, 1, 0, 0, 0, 5, 1, 0, 1, 0, 5, 1, 0);
        due("not as told", hall.friday(), -2);
        due("fridayAt(0)", hall.fridayAt(0), 1);
        due("fridayAt(1)", hall.fridayAt(1), 0);
        due("fridayAt(2)", hall.fridayAt(2), -1);
        tape(0, 0, 0, 0, 0);
        dueFriday(0, 0);
    }
}
