import java.util.Arrays;
import java.util.NoSuchElementException;

/**
 * A hall of machines that read a card at a time and do what the wires on a board say.
 * What each call promises stands in the document; the words in capitals are its terms.
 */
public final class PlugHall {

    public static final int NONE = -1;

    private static final int NOTHING = -1;
    private static final int COLUMNS = 20;
    private static final int BLANK = 15;
    private static final int PUNCHED_OVER = 16;
    private static final int CARD_ROOM = 40;
    private static final int BARS = 12;
    private static final int LINE_ROOM = 60;
    private static final int WHEELS = 4;
    private static final int DIGITS = 6;
    private static final int WHEEL_TURN = 1000000;
    private static final int ORDERS = 3;
    private static final int RELAYS = 4;
    private static final int POINTS = 3;
    private static final int BOARD_TEXT_ROOM = 700;
    private static final int JOB_TEXT_ROOM = 300;

    private static final int END_ALL_CARDS = 0;
    private static final int END_HALT = 1;
    private static final int END_JAM = 2;
    private static final int END_FULL = 3;

    private static final int FAULT_TOKEN = 1;
    private static final int FAULT_NUMBER = 2;
    private static final int FAULT_TWICE = 3;
    private static final int FAULT_MANY = 4;

    // The number of the first HUB of each word: HUBS follow one another as in part 1.
    private static final int HUB_C = 0;
    private static final int HUB_A = 20;
    private static final int HUB_X = 40;
    private static final int HUB_E = 60;
    private static final int HUB_U = 61;
    private static final int HUB_T = 65;
    private static final int HUB_O = 68;
    private static final int HUB_Z = 92;
    private static final int HUB_I = 96;
    private static final int HUB_PLUS = 120;
    private static final int HUB_MINUS = 124;
    private static final int HUB_CLEAR = 128;
    private static final int HUB_P = 132;
    private static final int HUB_S = 144;
    private static final int HUB_KA = 148;
    private static final int HUB_KB = 152;
    private static final int HUB_B = 156;
    private static final int HUB_Q = 159;
    private static final int HUB_M = 179;
    private static final int HUB_HALT = 180;
    private static final int HUB_RC = 181;
    private static final int HUB_RN = 193;
    private static final int HUB_RT = 205;
    private static final int HUBS = 217;
    private static final int GIVERS = HUB_I;
    private static final int TAKERS = HUB_RC - HUB_I;

    private final Tape tape = new Tape();
    private final Boxes boxes = new Boxes();
    private final Outcome latest = new Outcome();
    private final Machine machine = new Machine(boxes, latest);
    private final Trials trials = new Trials(boxes, machine);
    private final Plan plan = new Plan();
    private final Shelf shelf = new Shelf();
    private final Sheet wantedSheet = new Sheet();
    private Board plugged = new Board();
    private Board spareBoard = new Board();
    private Job order = new Job();
    private Job spareOrder = new Job();
    private boolean hasRun;
    private int leastPasses;

    public PlugHall() {
    }

    public int feed(int a, int b, int c, int d, int e) {
        if (tape.length + COLUMNS > Tape.ROOM) {
            return NONE;
        }
        tape.add(a);
        tape.add(b);
        tape.add(c);
        tape.add(d);
        tape.add(e);
        return tape.length;
    }

    public boolean end(int n) {
        if (n < 0 || n > tape.length) {
            return false;
        }
        tape.length = n;
        return true;
    }

    public int card(int box) {
        boolean fits = Boxes.isBox(box) && tape.isCard() && boxes.hasRoom(box);
        if (fits) {
            boxes.addTold(box, tape);
        }
        tape.length = 0;
        return fits ? boxes.sizes[box] : NONE;
    }

    public int cards(int box) {
        return Boxes.isBox(box) ? boxes.sizes[box] : NONE;
    }

    public int column(int box, int k, int n) throws NoSuchElementException {
        if (!boxes.isCard(box, k) || !Boxes.isColumn(n)) {
            throw new NoSuchElementException();
        }
        return boxes.cells[boxes.cellOf(box, k) + n - 1];
    }

    public int empty(int box) {
        if (!Boxes.isBox(box)) {
            return NONE;
        }
        int had = boxes.sizes[box];
        boxes.sizes[box] = 0;
        return had;
    }

    public int board() {
        boolean fine = spareBoard.readText(tape);
        tape.length = 0;
        if (!fine) {
            return -1 - tape.faultPlace;
        }
        Board read = spareBoard;
        spareBoard = plugged;
        plugged = read;
        return plugged.wires;
    }

    public int fault() {
        return tape.faultKind;
    }

    public int run(int box, int to) {
        if (!Boxes.isBox(box) || !Boxes.isBox(to) || box == to) {
            return NONE;
        }
        boxes.dealAll(box);
        machine.plug(plugged, NOTHING);
        machine.perform(latest, CARD_ROOM - boxes.sizes[to], null);
        boxes.addPunched(to, latest);
        hasRun = true;
        return latest.end;
    }

    public int ran(int what) {
        return hasRun ? latest.figure(what) : NONE;
    }

    public int bar(int line, int n) throws NoSuchElementException {
        if (!latest.sheet.hasCell(line, n)) {
            throw new NoSuchElementException();
        }
        return latest.sheet.cellAt(line, n);
    }

    public int wheel(int w) throws NoSuchElementException {
        if (!hasRun || w < 1 || w > WHEELS) {
            throw new NoSuchElementException();
        }
        return latest.wheels[w - 1];
    }

    public boolean pass(int box, int n) {
        if (!Boxes.isBox(box) || !Boxes.isColumn(n)) {
            return false;
        }
        boxes.sortBox(box, n);
        return true;
    }

    public int idle(int box) {
        return Boxes.isBox(box) ? trials.findIdle(plugged, box) : NONE;
    }

    public int missing(int box) {
        boolean told = trials.told.readLines(tape);
        tape.length = 0;
        return told && Boxes.isBox(box) ? trials.findMissing(plugged, box) : NONE;
    }

    public int wire(int k) {
        return k >= 0 && k < trials.foundWires ? trials.foundWire[k] : NONE;
    }

    public int tests(int box) {
        return Boxes.isBox(box) ? trials.findTests(plugged, box) : NONE;
    }

    public int testSet() {
        return trials.testCards;
    }

    public int shown() {
        return trials.shownWires;
    }

    public int job() {
        boolean fine = spareOrder.readText(tape);
        tape.length = 0;
        if (!fine) {
            return -1 - tape.faultPlace;
        }
        Job read = spareOrder;
        spareOrder = order;
        order = read;
        plan.partWants(order);
        return order.wants;
    }

    public int runs() {
        return plan.parts;
    }

    public int wants(int r) {
        return plan.hasPart(r) ? plan.part[r] : NONE;
    }

    public int make(int r) {
        if (!plan.hasPart(r)) {
            return NONE;
        }
        plan.makeBoard(order, plan.part[r], plugged);
        return plugged.wires;
    }

    public int wanted(int box, int r) {
        if (!Boxes.isBox(box) || !plan.hasPart(r)) {
            return NONE;
        }
        boxes.dealAll(box);
        plan.writeWanted(order, plan.part[r], boxes, wantedSheet);
        return wantedSheet.linesTold();
    }

    public int wantedAt(int line, int n) throws NoSuchElementException {
        if (!wantedSheet.hasCell(line, n)) {
            throw new NoSuchElementException();
        }
        return wantedSheet.cellAt(line, n);
    }

    public int same(int box, int r) {
        if (!Boxes.isBox(box) || !plan.hasPart(r)) {
            return NONE;
        }
        boxes.dealAll(box);
        plan.writeWanted(order, plan.part[r], boxes, trials.told);
        return trials.endsAsTold(plugged) ? 1 : 0;
    }

    public int needed(int box) {
        boolean told = Boxes.isBox(box) && tape.isColumns();
        if (told) {
            leastPasses = boxes.leastPasses(box, tape);
        }
        tape.length = 0;
        return told ? Integer.bitCount(leastPasses) : NONE;
    }

    public int neededSet() {
        return leastPasses;
    }

    public int unseen(int box) {
        return Boxes.isBox(box) ? trials.findUnseen(plugged, box) : NONE;
    }

    public int unseenAt(int k) {
        return k >= 0 && k < trials.unseenCards ? trials.unseenCard[k] : NONE;
    }

    public int moves(int box) {
        boolean told = trials.told.readLines(tape);
        tape.length = 0;
        return told && Boxes.isBox(box) ? trials.findMoves(plugged, box) : NONE;
    }

    public int move(int k, int what) {
        return trials.moveFigure(k, what);
    }

    public boolean keep(int k) {
        if (!Shelf.isPlace(k)) {
            return false;
        }
        shelf.put(k, plugged);
        return true;
    }

    public int use(int k) {
        if (!shelf.holds(k)) {
            return NONE;
        }
        plugged.copyFrom(shelf.boards[k]);
        return plugged.wires;
    }

    public int apart(int a, int b) {
        return shelf.holds(a) && shelf.holds(b) ? shelf.wiresApart(a, b) : NONE;
    }

    public int friday() {
        boolean told = shelf.readFriday(tape);
        tape.length = 0;
        return told ? shelf.planFriday() : -2;
    }

    public int fridayAt(int k) {
        return k >= 0 && k < shelf.bestTold ? shelf.bestOrder[k] : NONE;
    }

    public int count(int what) {
        switch (what) {
            case 0:
                return plugged.wires;
            case 1:
                return boxes.cardsInAll();
            case 2:
                return tape.length;
            default:
                return NONE;
        }
    }

    /** The bytes fed so far, and a reader that goes over them TOKEN by TOKEN. */
    private static final class Tape {
        static final int ROOM = 740;
        static final int END = 0;
        static final int WORD = 1;
        static final int NUMBER = 2;
        static final int SIGN = 3;
        static final int NO_TOKEN = 4;
        static final int LONGEST_WORD = 5;
        static final int LONGEST_NUMBER = 2;
        static final int MOST_SORT_COLUMNS = 8;

        final int[] bytes = new int[ROOM];
        int length;
        int limit;
        int next;
        // The TOKEN read last: its kind, where it begins, how long it is, and what it says.
        int kind;
        int place;
        int size;
        int value;
        int faultKind;
        int faultPlace;

        void add(int number) {
            for (int shift = 24; shift >= 0 && length < ROOM; shift -= 8) {
                bytes[length] = (number >>> shift) & 255;
                length++;
            }
        }

        boolean isCard() {
            for (int i = 0; i < length; i++) {
                int digit = bytes[i] & ~PUNCHED_OVER;
                if (digit > 9 && digit != BLANK) {
                    return false;
                }
            }
            return length == COLUMNS;
        }

        boolean isColumns() {
            for (int i = 0; i < length; i++) {
                if (!Boxes.isColumn(bytes[i])) {
                    return false;
                }
            }
            return length >= 1 && length <= MOST_SORT_COLUMNS;
        }

        void open(int room) {
            limit = room;
            next = 0;
            faultKind = 0;
            faultPlace = 0;
            advance();
        }

        void advance() {
            while (next < length && (bytes[next] == ' ' || bytes[next] == '\n')) {
                next++;
            }
            value = 0;
            size = 0;
            if (next >= length || next >= limit) {
                kind = END;
                place = Math.min(length, limit);
                return;
            }
            place = next;
            if (bytes[next] >= 'a' && bytes[next] <= 'z') {
                readWord();
            } else if (bytes[next] >= '0' && bytes[next] <= '9') {
                readNumber();
            } else {
                readSign();
            }
        }

        private void readWord() {
            while (next < length && bytes[next] >= 'a' && bytes[next] <= 'z') {
                value = value * 32 + bytes[next] - 'a' + 1;
                next++;
            }
            size = next - place;
            kind = size <= LONGEST_WORD ? WORD : NO_TOKEN;
        }

        private void readNumber() {
            while (next < length && bytes[next] >= '0' && bytes[next] <= '9') {
                value = value * 10 + bytes[next] - '0';
                next++;
            }
            size = next - place;
            kind = size <= LONGEST_NUMBER ? NUMBER : NO_TOKEN;
        }

        private void readSign() {
            value = bytes[next];
            next++;
            size = 1;
            kind = value == '-' || value == ';' || value == '.' ? SIGN : NO_TOKEN;
        }

        boolean isWord(String word) {
            return kind == WORD && size == word.length() && stands(word, 0);
        }

        /** Whether the WORD stands in a text of words from a place on. */
        boolean stands(String words, int from) {
            for (int i = 0; i < size; i++) {
                if (from + i >= words.length() || words.charAt(from + i) != bytes[place + i]) {
                    return false;
                }
            }
            return true;
        }

        /** Marks a FAULT; answers false, so that a reader can end with it. */
        boolean mark(int faultKindFound, int faultPlaceFound) {
            faultKind = faultKindFound;
            faultPlace = faultPlaceFound;
            return false;
        }

        boolean endsInRoom() {
            return length <= limit || mark(FAULT_TOKEN, place);
        }

        boolean takeSign(int sign) {
            if (kind != SIGN || value != sign) {
                return mark(FAULT_TOKEN, place);
            }
            advance();
            return true;
        }

        /** The NUMBER that comes next, or 0 and a FAULT: every told number is at least 1. */
        int takeNumber(int least, int most) {
            if (kind != NUMBER) {
                mark(FAULT_TOKEN, place);
                return 0;
            }
            if (value < least || value > most) {
                mark(FAULT_NUMBER, place);
                return 0;
            }
            int number = value;
            advance();
            return number;
        }
    }

    /** The BOXES with their CARDS, and the CARDS dealt to a machine. */
    private static final class Boxes {
        static final int ALL = 8;
        static final int RANKS = 11;

        final byte[] cells = new byte[ALL * CARD_ROOM * COLUMNS];
        // Where each CARD's cells begin, so that sorting moves no cells.
        private final int[] cellStarts = new int[ALL * CARD_ROOM];
        final int[] sizes = new int[ALL];
        final int[] deck = new int[CARD_ROOM];
        int deckSize;
        private final int[] sorted = new int[CARD_ROOM];
        private final int[] spare = new int[CARD_ROOM];
        private final int[] rankStarts = new int[RANKS + 1];

        Boxes() {
            for (int i = 0; i < ALL * CARD_ROOM; i++) {
                cellStarts[i] = i * COLUMNS;
            }
        }

        static boolean isBox(int box) {
            return box >= 0 && box < ALL;
        }

        static boolean isColumn(int n) {
            return n >= 1 && n <= COLUMNS;
        }

        boolean isCard(int box, int k) {
            return isBox(box) && k >= 0 && k < sizes[box];
        }

        boolean hasRoom(int box) {
            return sizes[box] < CARD_ROOM;
        }

        int cellOf(int box, int k) {
            return cellStarts[box * CARD_ROOM + k];
        }

        int cardsInAll() {
            int all = 0;
            for (int box = 0; box < ALL; box++) {
                all += sizes[box];
            }
            return all;
        }

        void addTold(int box, Tape tape) {
            int start = cellOf(box, sizes[box]);
            for (int i = 0; i < COLUMNS; i++) {
                cells[start + i] = (byte) tape.bytes[i];
            }
            sizes[box]++;
        }

        void addPunched(int box, Outcome outcome) {
            for (int k = 0; k < outcome.cards && hasRoom(box); k++) {
                System.arraycopy(outcome.punched, k * COLUMNS, cells, cellOf(box, sizes[box]), COLUMNS);
                sizes[box]++;
            }
        }

        void dealFirst(int box, int most) {
            deckSize = Math.min(most, sizes[box]);
            System.arraycopy(cellStarts, box * CARD_ROOM, deck, 0, deckSize);
        }

        void dealAll(int box) {
            dealFirst(box, CARD_ROOM);
        }

        void dealOne(int box, int k) {
            deckSize = 1;
            deck[0] = cellOf(box, k);
        }

        void dealWithout(int box, int left) {
            deckSize = 0;
            for (int k = 0; k < sizes[box]; k++) {
                if (k != left) {
                    deck[deckSize] = cellOf(box, k);
                    deckSize++;
                }
            }
        }

        int digitOf(int cell, int n) {
            return cells[cell + n - 1] & BLANK;
        }

        boolean isOver(int cell, int n) {
            return (cells[cell + n - 1] & PUNCHED_OVER) != 0;
        }

        /** Blank is 15: one more, of four bits, puts it ahead of 0. */
        private int rankOf(int cell, int n) {
            return (digitOf(cell, n) + 1) & BLANK;
        }

        void sortBox(int box, int n) {
            int first = box * CARD_ROOM;
            System.arraycopy(cellStarts, first, sorted, 0, sizes[box]);
            sortRow(sizes[box], n);
            System.arraycopy(sorted, 0, cellStarts, first, sizes[box]);
        }

        private void sortRow(int size, int n) {
            Arrays.fill(rankStarts, 0);
            for (int i = 0; i < size; i++) {
                rankStarts[rankOf(sorted[i], n) + 1]++;
            }
            for (int rank = 1; rank <= RANKS; rank++) {
                rankStarts[rank] += rankStarts[rank - 1];
            }
            for (int i = 0; i < size; i++) {
                int rank = rankOf(sorted[i], n);
                spare[rankStarts[rank]] = sorted[i];
                rankStarts[rank]++;
            }
            System.arraycopy(spare, 0, sorted, 0, size);
        }

        /** NEEDED passes by the COLUMNS on the tape, as bits. */
        int leastPasses(int box, Tape columns) {
            int all = (1 << columns.length) - 1;
            int best = all;
            for (int set = 0; set < all; set++) {
                if (Integer.bitCount(set) < Integer.bitCount(best) && putsInOrder(box, columns, set)) {
                    best = set;
                }
            }
            return best;
        }

        private boolean putsInOrder(int box, Tape columns, int set) {
            int size = sizes[box];
            System.arraycopy(cellStarts, box * CARD_ROOM, sorted, 0, size);
            for (int j = columns.length - 1; j >= 0; j--) {
                if ((set >> j & 1) != 0) {
                    sortRow(size, columns.bytes[j]);
                }
            }
            for (int i = 1; i < size; i++) {
                if (isBehind(sorted[i - 1], sorted[i], columns)) {
                    return false;
                }
            }
            return true;
        }

        private boolean isBehind(int cell, int other, Tape columns) {
            for (int j = 0; j < columns.length; j++) {
                int difference = rankOf(cell, columns.bytes[j]) - rankOf(other, columns.bytes[j]);
                if (difference != 0) {
                    return difference > 0;
                }
            }
            return false;
        }
    }

    /** The WIRES of a BOARD, each from one HUB's number to another's. */
    private static final class Board {
        static final int MOST_WIRES = 60;
        static final int MOST_OF_A_GIVER = 8;
        static final int WORDS = 23;
        static final int WORD_STEP = 5;
        // A word each five signs; the arrays below go by the same numbers.
        static final String HUB_WORDS =
            "c    a    x    e    u    t    o    z    i    plus minusclearp    s    ka   kb   b    q    m    halt rc   rn   rt   ";
        static final int[] FIRST_HUB = {
            HUB_C, HUB_A, HUB_X, HUB_E, HUB_U, HUB_T, HUB_O, HUB_Z,
            HUB_I, HUB_PLUS, HUB_MINUS, HUB_CLEAR, HUB_P, HUB_S, HUB_KA, HUB_KB, HUB_B, HUB_Q, HUB_M, HUB_HALT,
            HUB_RC, HUB_RN, HUB_RT, HUBS};
        // The greatest NUMBER behind a word, and behind its dot; 0 where none comes.
        static final int[] MOST_NUMBER = {20, 20, 20, 0, 4, 3, 4, 4, 4, 4, 4, 4, 12, 4, 4, 4, 3, 20, 0, 0, 4, 4, 4};
        static final int[] MOST_BEHIND_DOT = {0, 0, 0, 0, 0, 0, 6, 0, 6, 0, 0, 0, 0, 0, 0, 0, 0, 0, 0, 0, 3, 3, 3};

        final int[] from = new int[MOST_WIRES];
        final int[] to = new int[MOST_WIRES];
        int wires;

        void copyFrom(Board other) {
            wires = other.wires;
            System.arraycopy(other.from, 0, from, 0, wires);
            System.arraycopy(other.to, 0, to, 0, wires);
        }

        boolean add(int first, int second) {
            if (wires >= MOST_WIRES) {
                return false;
            }
            from[wires] = first;
            to[wires] = second;
            wires++;
            return true;
        }

        int usesOf(int hub) {
            int uses = 0;
            for (int w = 0; w < wires; w++) {
                if (from[w] == hub || to[w] == hub) {
                    uses++;
                }
            }
            return uses;
        }

        boolean mayHaveMore(int hub) {
            boolean takes = hub >= HUB_I && hub < HUB_RC;
            return usesOf(hub) < (takes ? 1 : MOST_OF_A_GIVER);
        }

        static int wordOfHub(int hub) {
            int word = 0;
            while (word + 1 < WORDS && FIRST_HUB[word + 1] <= hub) {
                word++;
            }
            return word;
        }

        /** Like WIRES are WIRES each: one of the other BOARD is the fellow of one here alone. */
        int wiresApart(Board other) {
            long fellows = 0;
            for (int w = 0; w < wires; w++) {
                int fellow = other.findWire(from[w], to[w], fellows);
                if (fellow != NOTHING) {
                    fellows |= 1L << fellow;
                }
            }
            return wires + other.wires - 2 * Long.bitCount(fellows);
        }

        /** The first WIRE between two HUBS, whichever is told first, that is not among those left out (as bits). */
        private int findWire(int first, int second, long leftOut) {
            for (int w = 0; w < wires; w++) {
                boolean isLike = from[w] == first && to[w] == second || from[w] == second && to[w] == first;
                if (isLike && (leftOut >> w & 1) == 0) {
                    return w;
                }
            }
            return NOTHING;
        }

        boolean readText(Tape tape) {
            wires = 0;
            tape.open(BOARD_TEXT_ROOM);
            for (int line = 0; line <= MOST_WIRES; line++) {
                if (tape.kind == Tape.END) {
                    return tape.endsInRoom();
                }
                if (!readWire(tape)) {
                    return false;
                }
            }
            return false;
        }

        private boolean readWire(Tape tape) {
            int first = readHub(tape, NOTHING);
            if (first == NOTHING || !tape.takeSign('-')) {
                return false;
            }
            int second = readHub(tape, first);
            return second != NOTHING && tape.takeSign(';') && add(first, second);
        }

        /** The HUB that comes next, or NOTHING and a FAULT; ahead is the WIRE's first HUB, if that was read. */
        private int readHub(Tape tape, int ahead) {
            int start = tape.place;
            int word = wordOnTape(tape);
            if (word == NOTHING) {
                tape.mark(FAULT_TOKEN, start);
                return NOTHING;
            }
            if (ahead == NOTHING && wires >= MOST_WIRES) {
                tape.mark(FAULT_MANY, start);
                return NOTHING;
            }
            tape.advance();
            int hub = readHubNumbers(tape, word);
            if (hub != NOTHING && (hub == ahead || !mayHaveMore(hub))) {
                tape.mark(FAULT_TWICE, start);
                return NOTHING;
            }
            return hub;
        }

        private static int wordOnTape(Tape tape) {
            if (tape.kind != Tape.WORD) {
                return NOTHING;
            }
            for (int word = 0; word < WORDS; word++) {
                int start = word * WORD_STEP;
                boolean asLong = tape.size == WORD_STEP || HUB_WORDS.charAt(start + tape.size) == ' ';
                if (asLong && tape.stands(HUB_WORDS, start)) {
                    return word;
                }
            }
            return NOTHING;
        }

        private static int readHubNumbers(Tape tape, int word) {
            int hub = FIRST_HUB[word];
            if (MOST_NUMBER[word] == 0) {
                return hub;
            }
            int number = tape.takeNumber(1, MOST_NUMBER[word]);
            if (number == 0) {
                return NOTHING;
            }
            if (MOST_BEHIND_DOT[word] == 0) {
                return hub + number - 1;
            }
            if (!tape.takeSign('.')) {
                return NOTHING;
            }
            int behind = tape.takeNumber(1, MOST_BEHIND_DOT[word]);
            return behind == 0 ? NOTHING : hub + (number - 1) * MOST_BEHIND_DOT[word] + behind - 1;
        }
    }

    /** LINES of print; of more than sixty only the first sixty are written down. */
    private static final class Sheet {
        private final byte[] cells = new byte[LINE_ROOM * BARS];
        int lines;

        int linesTold() {
            return Math.min(lines, LINE_ROOM);
        }

        boolean hasCell(int line, int n) {
            return line >= 0 && line < linesTold() && n >= 1 && n <= BARS;
        }

        int cellAt(int line, int n) {
            return cells[line * BARS + n - 1];
        }

        void addBlankLine() {
            if (lines < LINE_ROOM) {
                for (int i = lines * BARS; i < lines * BARS + BARS; i++) {
                    cells[i] = BLANK;
                }
            }
            lines++;
        }

        /** Writes a digit in the LINE added last. */
        void write(int n, int digit) {
            if (lines >= 1 && lines <= LINE_ROOM && n >= 1 && n <= BARS) {
                cells[(lines - 1) * BARS + n - 1] = (byte) digit;
            }
        }

        boolean hasLikeLine(Sheet other, int line) {
            if (line < 0 || line >= lines || line >= other.lines || line >= LINE_ROOM) {
                return false;
            }
            for (int i = line * BARS; i < line * BARS + BARS; i++) {
                if (cells[i] != other.cells[i]) {
                    return false;
                }
            }
            return true;
        }

        /** Takes the tape's bytes as LINES; false, if they are not as told. */
        boolean readLines(Tape tape) {
            for (int i = 0; i < tape.length; i++) {
                if (tape.bytes[i] > 9 && tape.bytes[i] != BLANK) {
                    return false;
                }
            }
            if (tape.length % BARS != 0) {
                return false;
            }
            lines = tape.length / BARS;
            for (int i = 0; i < linesTold() * BARS; i++) {
                cells[i] = (byte) tape.bytes[i];
            }
            return true;
        }
    }

    /** The OUTCOME of a RUN, and the figures told of it. */
    private static final class Outcome {
        final Sheet sheet = new Sheet();
        final int[] wheels = new int[WHEELS];
        final byte[] punched = new byte[CARD_ROOM * COLUMNS];
        int cards;
        int end;
        int cardCycles;
        int totalCycles;
        int overruns;
        int jamFirst = NONE;
        int jamSecond = NONE;

        void clear() {
            sheet.lines = 0;
            Arrays.fill(wheels, 0);
            cards = 0;
            end = END_ALL_CARDS;
            cardCycles = 0;
            totalCycles = 0;
            overruns = 0;
            jamFirst = NONE;
            jamSecond = NONE;
        }

        int figure(int what) {
            switch (what) {
                case 0:
                    return cardCycles;
                case 1:
                    return totalCycles;
                case 2:
                    return sheet.lines;
                case 3:
                    return cards;
                case 4:
                    return overruns;
                case 5:
                    return jamFirst;
                case 6:
                    return jamSecond;
                default:
                    return NONE;
            }
        }

        /** Whether all but the LINES is the same: those are looked at while they are printed. */
        boolean endsLike(Outcome other) {
            if (end != other.end || cards != other.cards) {
                return false;
            }
            for (int w = 0; w < WHEELS; w++) {
                if (wheels[w] != other.wheels[w]) {
                    return false;
                }
            }
            for (int i = 0; i < cards * COLUMNS; i++) {
                if (punched[i] != other.punched[i]) {
                    return false;
                }
            }
            return true;
        }
    }

    /** Which HUBS of a BOARD hang together, for each set of PICKED relays. */
    private static final class Nets {
        private static final int ALL_POINTS = RELAYS * POINTS;
        private static final int RELAY_SETS = 16;

        // HUBS joined by WIRES alone are one part; a part's link leads to a part of a lower number or to itself.
        private final int[] partOf = new int[HUBS];
        private final int[] link = new int[Board.MOST_WIRES];
        private int parts;
        // For each set of PICKED relays, made when it is first asked for: the NET of each part.
        private final int[] rows = new int[RELAY_SETS * Board.MOST_WIRES];
        private int rowsMade;
        // Wired HUBS that give, by rising numbers: first those of CARD CYCLES, then u, then those of TOTAL CYCLES.
        final int[] givers = new int[GIVERS];
        int firstComparer;
        int firstOfTotals;
        int giversEnd;
        final int[] takers = new int[TAKERS];
        int takersEnd;
        boolean hasCoils;
        private final int[] points = new int[ALL_POINTS];
        private int pointsEnd;

        /** Takes the BOARD's WIRES but for one (NOTHING: all). */
        void build(Board board, int without) {
            Arrays.fill(partOf, NOTHING);
            parts = 0;
            rowsMade = 0;
            for (int w = 0; w < board.wires; w++) {
                if (w != without) {
                    join(board.from[w], board.to[w]);
                }
            }
            listGivers();
            listTakers();
            listPoints();
        }

        private void join(int a, int b) {
            if (partOf[a] == NOTHING && partOf[b] == NOTHING) {
                link[parts] = parts;
                partOf[a] = parts;
                partOf[b] = parts;
                parts++;
            } else if (partOf[a] == NOTHING) {
                partOf[a] = partOf[b];
            } else if (partOf[b] == NOTHING) {
                partOf[b] = partOf[a];
            } else {
                int root = rootOf(link, 0, partOf[a]);
                int otherRoot = rootOf(link, 0, partOf[b]);
                link[Math.max(root, otherRoot)] = Math.min(root, otherRoot);
            }
        }

        private static int rootOf(int[] links, int start, int part) {
            int root = part;
            for (int step = 0; step < Board.MOST_WIRES && links[start + root] != root; step++) {
                root = links[start + root];
            }
            return root;
        }

        private void listGivers() {
            giversEnd = 0;
            listGiversBelow(HUB_U, 0);
            firstComparer = giversEnd;
            listGiversBelow(HUB_T, HUB_U);
            firstOfTotals = giversEnd;
            listGiversBelow(GIVERS, HUB_T);
        }

        private void listGiversBelow(int end, int first) {
            for (int hub = first; hub < end; hub++) {
                if (partOf[hub] != NOTHING) {
                    givers[giversEnd] = hub;
                    giversEnd++;
                }
            }
        }

        private void listTakers() {
            takersEnd = 0;
            hasCoils = false;
            for (int hub = GIVERS; hub < GIVERS + TAKERS; hub++) {
                if (partOf[hub] != NOTHING) {
                    takers[takersEnd] = hub;
                    takersEnd++;
                    hasCoils |= hub >= HUB_S && hub < HUB_S + RELAYS;
                }
            }
        }

        private void listPoints() {
            pointsEnd = 0;
            for (int point = 0; point < ALL_POINTS; point++) {
                boolean leads = partOf[HUB_RN + point] != NOTHING || partOf[HUB_RT + point] != NOTHING;
                if (leads && partOf[HUB_RC + point] != NOTHING) {
                    points[pointsEnd] = point;
                    pointsEnd++;
                }
            }
        }

        /** Makes the row for a set of PICKED relays, if need be; netOf() may be asked for it then. */
        void want(int picked) {
            if ((rowsMade >> picked & 1) != 0) {
                return;
            }
            rowsMade |= 1 << picked;
            int start = picked * Board.MOST_WIRES;
            System.arraycopy(link, 0, rows, start, parts);
            for (int i = 0; i < pointsEnd; i++) {
                int point = points[i];
                boolean isPicked = (picked >> point / POINTS & 1) != 0;
                int other = partOf[(isPicked ? HUB_RT : HUB_RN) + point];
                if (other != NOTHING) {
                    int root = rootOf(rows, start, partOf[HUB_RC + point]);
                    int otherRoot = rootOf(rows, start, other);
                    rows[start + Math.max(root, otherRoot)] = Math.min(root, otherRoot);
                }
            }
            // Links lead to lower parts, so that the one a link leads to is straight already.
            for (int part = 0; part < parts; part++) {
                rows[start + part] = rows[start + rows[start + part]];
            }
        }

        /** The NET of a HUB, NOTHING for one without a WIRE. */
        int netOf(int picked, int hub) {
            int part = partOf[hub];
            return part == NOTHING ? NOTHING : rows[picked * Board.MOST_WIRES + part];
        }
    }

    /** Lets the dealt CARDS go by once, as the WIRES that were plugged in say. */
    private static final class Machine {
        private static final int NO_HUB = HUBS;

        private final Boxes boxes;
        private final Nets nets = new Nets();
        // What each giver of the nets' list gives in this CYCLE, and what each HUB that takes TAKES.
        private final int[] gives = new int[GIVERS];
        private final int[] taken = new int[TAKERS];
        // Of each NET, if its stamp is this one: its first giver, and what that gives.
        private final int[] netStamp = new int[Board.MOST_WIRES];
        private final int[] netGiver = new int[Board.MOST_WIRES];
        private final int[] netDigit = new int[Board.MOST_WIRES];
        private int stamp;
        private int picked;
        private int jamFirst;
        private int jamSecond;
        private Outcome out;
        private Sheet told;
        private int room;
        private boolean strayed;

        Machine(Boxes boxes, Outcome out) {
            this.boxes = boxes;
            this.out = out;
        }

        void plug(Board board, int without) {
            nets.build(board, without);
            Arrays.fill(taken, NOTHING);
        }

        /**
         * A RUN of the dealt CARDS. If LINES are told, it is left off at the first that is another one;
         * answers whether the LINES are just those.
         */
        boolean perform(Outcome outcome, int punchRoom, Sheet toldLines) {
            out = outcome;
            out.clear();
            told = toldLines;
            room = punchRoom;
            strayed = false;
            boolean goesOn = true;
            for (int k = 0; k < boxes.deckSize && goesOn; k++) {
                goesOn = cardCycle(k);
                boolean halts = takes(HUB_HALT);
                int orders = halts || k + 1 == boxes.deckSize ? ORDERS : greatestOrder();
                for (int n = 1; n <= orders && goesOn; n++) {
                    goesOn = totalCycle(n);
                }
                if (halts && goesOn) {
                    out.end = END_HALT;
                    goesOn = false;
                }
            }
            return toldLines == null || !strayed && out.sheet.lines == toldLines.lines;
        }

        private int greatestOrder() {
            int greatest = 0;
            for (int n = 1; n <= ORDERS; n++) {
                if (takes(HUB_B + n - 1)) {
                    greatest = n;
                }
            }
            return greatest;
        }

        private boolean cardCycle(int k) {
            int cell = boxes.deck[k];
            int nextCell = k + 1 < boxes.deckSize ? boxes.deck[k + 1] : NOTHING;
            for (int i = 0; i < nets.firstComparer; i++) {
                gives[i] = givenByCard(nets.givers[i], cell, nextCell);
            }
            pickRelays(0, nets.firstComparer);
            giveAll(0, nets.firstComparer);
            compare();
            giveAll(nets.firstComparer, nets.firstOfTotals);
            if (!finishCycle()) {
                return false;
            }
            out.cardCycles++;
            return true;
        }

        private int givenByCard(int hub, int cell, int nextCell) {
            if (hub < HUB_A) {
                return digitOrNothing(cell, hub - HUB_C + 1);
            }
            if (hub < HUB_X) {
                return nextCell == NOTHING ? NOTHING : digitOrNothing(nextCell, hub - HUB_A + 1);
            }
            return hub == HUB_E || boxes.isOver(cell, hub - HUB_X + 1) ? 1 : NOTHING;
        }

        private int digitOrNothing(int cell, int n) {
            int digit = boxes.digitOf(cell, n);
            return digit == BLANK ? NOTHING : digit;
        }

        private boolean totalCycle(int order) {
            for (int i = nets.firstOfTotals; i < nets.giversEnd; i++) {
                gives[i] = givenByTotal(nets.givers[i], order);
            }
            pickRelays(nets.firstOfTotals, nets.giversEnd);
            giveAll(nets.firstOfTotals, nets.giversEnd);
            if (!finishCycle()) {
                return false;
            }
            out.totalCycles++;
            return true;
        }

        private int givenByTotal(int hub, int order) {
            if (hub < HUB_O) {
                return hub - HUB_T + 1 == order ? 1 : NOTHING;
            }
            if (hub < HUB_Z) {
                return decimalOf(out.wheels[(hub - HUB_O) / DIGITS], (hub - HUB_O) % DIGITS);
            }
            return out.wheels[hub - HUB_Z] < 0 ? 1 : NOTHING;
        }

        /** A number's digit without sign, 0 being the lowest one. */
        static int decimalOf(int number, int place) {
            int rest = Math.abs(number);
            for (int d = 0; d < place && d < DIGITS; d++) {
                rest /= 10;
            }
            return rest % 10;
        }

        /** Leaves the NETS of the relays PICKED without any giver. */
        private void pickRelays(int first, int end) {
            picked = 0;
            if (nets.hasCoils) {
                nets.want(0);
                stamp++;
                for (int i = first; i < end; i++) {
                    int net = gives[i] == NOTHING ? NOTHING : nets.netOf(0, nets.givers[i]);
                    if (net != NOTHING) {
                        netStamp[net] = stamp;
                    }
                }
                for (int r = 0; r < RELAYS; r++) {
                    int net = nets.netOf(0, HUB_S + r);
                    if (net != NOTHING && netStamp[net] == stamp) {
                        picked |= 1 << r;
                    }
                }
            }
            nets.want(picked);
            stamp++;
            jamFirst = NO_HUB;
            jamSecond = NO_HUB;
        }

        /** Givers come by rising numbers, so that the first two of a NET are its least. */
        private void giveAll(int first, int end) {
            for (int i = first; i < end; i++) {
                int hub = nets.givers[i];
                int net = gives[i] == NOTHING ? NOTHING : nets.netOf(picked, hub);
                if (net != NOTHING && netStamp[net] != stamp) {
                    netStamp[net] = stamp;
                    netGiver[net] = hub;
                    netDigit[net] = gives[i];
                } else if (net != NOTHING && netGiver[net] < jamFirst) {
                    jamFirst = netGiver[net];
                    jamSecond = hub;
                }
            }
        }

        private int look(int hub) {
            int net = nets.netOf(picked, hub);
            return net != NOTHING && netStamp[net] == stamp ? netDigit[net] : NOTHING;
        }

        private void compare() {
            for (int i = nets.firstComparer; i < nets.firstOfTotals; i++) {
                int n = nets.givers[i] - HUB_U;
                gives[i] = look(HUB_KA + n) != look(HUB_KB + n) ? 1 : NOTHING;
            }
        }

        private boolean takes(int hub) {
            return taken[hub - GIVERS] != NOTHING;
        }

        /** What is done when all HUBS that give do; false, if the RUN ends in this CYCLE's course. */
        private boolean finishCycle() {
            if (jamFirst != NO_HUB) {
                out.end = END_JAM;
                out.jamFirst = jamFirst;
                out.jamSecond = jamSecond;
                return false;
            }
            for (int i = 0; i < nets.takersEnd; i++) {
                taken[nets.takers[i] - GIVERS] = look(nets.takers[i]);
            }
            if (!print()) {
                return false;
            }
            for (int w = 0; w < WHEELS; w++) {
                turnWheel(w);
            }
            return punch();
        }

        private boolean print() {
            boolean any = false;
            for (int n = 0; n < BARS && !any; n++) {
                any = takes(HUB_P + n);
            }
            if (!any) {
                return true;
            }
            if (out.sheet.lines >= LINE_ROOM) {
                out.end = END_FULL;
                return false;
            }
            out.sheet.addBlankLine();
            for (int n = 0; n < BARS; n++) {
                if (takes(HUB_P + n)) {
                    out.sheet.write(n + 1, taken[HUB_P + n - GIVERS]);
                }
            }
            strayed = told != null && !out.sheet.hasLikeLine(told, out.sheet.lines - 1);
            return !strayed;
        }

        private void turnWheel(int w) {
            boolean adds = takes(HUB_PLUS + w);
            if (adds != takes(HUB_MINUS + w)) {
                int number = 0;
                for (int d = DIGITS - 1; d >= 0; d--) {
                    int digit = taken[HUB_I + w * DIGITS + d - GIVERS];
                    number = number * 10 + Math.max(digit, 0);
                }
                int sum = out.wheels[w] + (adds ? number : -number);
                if (Math.abs(sum) >= WHEEL_TURN) {
                    out.overruns++;
                }
                out.wheels[w] = sum % WHEEL_TURN;
            }
            if (takes(HUB_CLEAR + w)) {
                out.wheels[w] = 0;
            }
        }

        private boolean punch() {
            if (!takes(HUB_M)) {
                return true;
            }
            if (out.cards >= room || out.cards >= CARD_ROOM) {
                out.end = END_FULL;
                return false;
            }
            int start = out.cards * COLUMNS;
            for (int n = 0; n < COLUMNS; n++) {
                int digit = taken[HUB_Q + n - GIVERS];
                out.punched[start + n] = (byte) (digit == NOTHING ? BLANK : digit);
            }
            out.cards++;
            return true;
        }
    }

    /** Questions that are answered by RUNS with a WIRE or a CARD left out, or a WIRE moved. */
    private static final class Trials {
        static final int TEST_CARDS = 10;
        static final int MOVE_CARDS = 3;
        static final int MOVES_KEPT = 100;
        static final int MOVE_FIGURES = 3;

        private final Boxes boxes;
        private final Machine machine;
        private final Outcome whole = new Outcome();
        private final Outcome trial = new Outcome();
        final Sheet told = new Sheet();
        final int[] foundWire = new int[Board.MOST_WIRES];
        int foundWires;
        private final long[] shows = new long[TEST_CARDS];
        int testCards;
        int shownWires;
        final int[] unseenCard = new int[CARD_ROOM];
        int unseenCards;
        private final int[] moved = new int[MOVES_KEPT * MOVE_FIGURES];
        private int movesFound;

        Trials(Boxes boxes, Machine machine) {
            this.boxes = boxes;
            this.machine = machine;
        }

        private void performWhole(Board board) {
            machine.plug(board, NOTHING);
            machine.perform(whole, CARD_ROOM, null);
        }

        /** Whether the dealt CARDS have the whole OUTCOME by what is plugged in now. */
        private boolean endsAsWhole() {
            return machine.perform(trial, CARD_ROOM, whole.sheet) && trial.endsLike(whole);
        }

        private boolean printsTold(Board board, int without) {
            machine.plug(board, without);
            return machine.perform(trial, CARD_ROOM, told);
        }

        boolean endsAsTold(Board board) {
            return printsTold(board, NOTHING) && trial.end == END_ALL_CARDS;
        }

        int findIdle(Board board, int box) {
            boxes.dealAll(box);
            performWhole(board);
            foundWires = 0;
            for (int w = 0; w < board.wires; w++) {
                machine.plug(board, w);
                if (endsAsWhole()) {
                    foundWire[foundWires] = w;
                    foundWires++;
                }
            }
            return foundWires;
        }

        int findMissing(Board board, int box) {
            boxes.dealAll(box);
            foundWires = 0;
            for (int w = 0; w < board.wires; w++) {
                if (printsTold(board, w)) {
                    foundWire[foundWires] = w;
                    foundWires++;
                }
            }
            return foundWires;
        }

        int findTests(Board board, int box) {
            int cards = Math.min(boxes.sizes[box], TEST_CARDS);
            long any = 0;
            for (int k = 0; k < cards; k++) {
                boxes.dealOne(box, k);
                shows[k] = wiresShown(board);
                any |= shows[k];
            }
            testCards = fewestCards(cards, any);
            shownWires = Long.bitCount(any);
            return Integer.bitCount(testCards);
        }

        private long wiresShown(Board board) {
            machine.plug(board, NOTHING);
            machine.perform(whole, CARD_ROOM, null);
            long shown = 0;
            for (int w = 0; w < board.wires; w++) {
                machine.plug(board, w);
                if (!machine.perform(trial, CARD_ROOM, whole.sheet) || !trial.endsLike(whole)) {
                    shown |= 1L << w;
                }
            }
            return shown;
        }

        private int fewestCards(int cards, long any) {
            int all = (1 << cards) - 1;
            int best = all;
            for (int set = 0; set < all; set++) {
                if (Integer.bitCount(set) < Integer.bitCount(best) && shownBy(set, cards) == any) {
                    best = set;
                }
            }
            return best;
        }

        private long shownBy(int set, int cards) {
            long shown = 0;
            for (int k = 0; k < cards; k++) {
                if ((set >> k & 1) != 0) {
                    shown |= shows[k];
                }
            }
            return shown;
        }

        int findUnseen(Board board, int box) {
            boxes.dealAll(box);
            performWhole(board);
            unseenCards = 0;
            for (int k = 0; k + 1 < boxes.sizes[box]; k++) {
                boxes.dealWithout(box, k + 1);
                if (endsAsWhole()) {
                    unseenCard[unseenCards] = k;
                    unseenCards++;
                }
            }
            return unseenCards;
        }

        int findMoves(Board board, int box) {
            boxes.dealFirst(box, MOVE_CARDS);
            movesFound = 0;
            for (int w = 0; w < board.wires; w++) {
                tryHubs(board, w, 0);
                tryHubs(board, w, 1);
            }
            return movesFound;
        }

        private void tryHubs(Board board, int w, int end) {
            int[] ends = end == 0 ? board.from : board.to;
            int stays = end == 0 ? board.to[w] : board.from[w];
            int was = ends[w];
            int word = Board.wordOfHub(was);
            int first = Board.FIRST_HUB[word];
            for (int hub = first; hub < Board.FIRST_HUB[word + 1]; hub++) {
                if (hub != was && hub != stays && board.mayHaveMore(hub)) {
                    ends[w] = hub;
                    machine.plug(board, NOTHING);
                    if (machine.perform(trial, CARD_ROOM, told)) {
                        addMove(w, end, hub - first);
                    }
                    ends[w] = was;
                }
            }
        }

        private void addMove(int w, int end, int which) {
            if (movesFound < MOVES_KEPT) {
                int start = movesFound * MOVE_FIGURES;
                moved[start] = w;
                moved[start + 1] = end;
                moved[start + 2] = which;
            }
            movesFound++;
        }

        int moveFigure(int k, int what) {
            boolean isKept = k >= 0 && k < movesFound && k < MOVES_KEPT;
            return isKept && what >= 0 && what < MOVE_FIGURES ? moved[k * MOVE_FIGURES + what] : NONE;
        }
    }

    /** The FIELDS, breaks and WANTS of a JOB. */
    private static final class Job {
        static final int MOST_FIELDS = 6;
        static final int MOST_WANTS = 8;
        static final int LONGEST_FIELD = 6;
        static final int LONGEST_SUM = 6;
        static final int COUNT = -1;

        private final int[] fieldName = new int[MOST_FIELDS];
        final int[] fieldFirst = new int[MOST_FIELDS];
        final int[] fieldLast = new int[MOST_FIELDS];
        private int fields;
        // The COLUMN of each order's break, 0 where there is none.
        final int[] breakColumn = new int[ORDERS + 1];
        final int[] wantField = new int[MOST_WANTS];
        final int[] wantDigits = new int[MOST_WANTS];
        final int[] wantOrder = new int[MOST_WANTS];
        // The COLUMN of 'over', 0 where there is none.
        final int[] wantOver = new int[MOST_WANTS];
        int wants;

        boolean readText(Tape tape) {
            fields = 0;
            wants = 0;
            Arrays.fill(breakColumn, 0);
            tape.open(JOB_TEXT_ROOM);
            for (int line = 0; line <= JOB_TEXT_ROOM; line++) {
                if (tape.kind == Tape.END) {
                    return tape.endsInRoom();
                }
                if (!readLine(tape) || !tape.takeSign(';')) {
                    return false;
                }
            }
            return false;
        }

        private boolean readLine(Tape tape) {
            if (tape.isWord("field")) {
                return readField(tape);
            }
            if (tape.isWord("break")) {
                return readBreak(tape);
            }
            if (tape.isWord("sum")) {
                return readSum(tape);
            }
            if (tape.isWord("count")) {
                return readCount(tape);
            }
            return tape.mark(FAULT_TOKEN, tape.place);
        }

        private static boolean isName(Tape tape) {
            return tape.kind == Tape.WORD && !tape.isWord("field") && !tape.isWord("break")
                && !tape.isWord("sum") && !tape.isWord("count") && !tape.isWord("over");
        }

        private int fieldOf(int name) {
            for (int f = 0; f < fields; f++) {
                if (fieldName[f] == name) {
                    return f;
                }
            }
            return NOTHING;
        }

        private boolean readField(Tape tape) {
            if (fields >= MOST_FIELDS) {
                return tape.mark(FAULT_MANY, tape.place);
            }
            tape.advance();
            if (!isName(tape)) {
                return tape.mark(FAULT_TOKEN, tape.place);
            }
            int name = tape.value;
            if (fieldOf(name) != NOTHING) {
                return tape.mark(FAULT_TWICE, tape.place);
            }
            tape.advance();
            int first = tape.takeNumber(1, COLUMNS);
            if (first == 0) {
                return false;
            }
            int last = tape.takeNumber(first, Math.min(COLUMNS, first + LONGEST_FIELD - 1));
            if (last == 0) {
                return false;
            }
            fieldName[fields] = name;
            fieldFirst[fields] = first;
            fieldLast[fields] = last;
            fields++;
            return true;
        }

        private boolean readBreak(Tape tape) {
            tape.advance();
            int n = tape.takeNumber(1, COLUMNS);
            if (n == 0) {
                return false;
            }
            int place = tape.place;
            int order = tape.takeNumber(1, ORDERS);
            if (order == 0) {
                return false;
            }
            if (breakColumn[order] != 0) {
                return tape.mark(FAULT_TWICE, place);
            }
            breakColumn[order] = n;
            return true;
        }

        private boolean readSum(Tape tape) {
            if (wants >= MOST_WANTS) {
                return tape.mark(FAULT_MANY, tape.place);
            }
            tape.advance();
            if (!isName(tape)) {
                return tape.mark(FAULT_TOKEN, tape.place);
            }
            int field = fieldOf(tape.value);
            if (field == NOTHING) {
                return tape.mark(FAULT_TWICE, tape.place);
            }
            tape.advance();
            if (!readDigitsAndOrder(tape)) {
                return false;
            }
            int over = 0;
            if (tape.isWord("over")) {
                tape.advance();
                over = tape.takeNumber(1, COLUMNS);
                if (over == 0) {
                    return false;
                }
            }
            return addWant(field, over);
        }

        private boolean readCount(Tape tape) {
            if (wants >= MOST_WANTS) {
                return tape.mark(FAULT_MANY, tape.place);
            }
            tape.advance();
            return readDigitsAndOrder(tape) && addWant(COUNT, 0);
        }

        private boolean readDigitsAndOrder(Tape tape) {
            int digits = tape.takeNumber(1, LONGEST_SUM);
            if (digits == 0) {
                return false;
            }
            int order = tape.takeNumber(1, ORDERS);
            if (order == 0) {
                return false;
            }
            wantDigits[wants] = digits;
            wantOrder[wants] = order;
            return true;
        }

        private boolean addWant(int field, int over) {
            wantField[wants] = field;
            wantOver[wants] = over;
            wants++;
            return true;
        }
    }

    /** How a JOB's WANTS are parted into RUNS, the BOARD MADE for each, and the LINES WANTED of it. */
    private static final class Plan {
        static final int SETS = 256;
        static final int NO_WAY = 1000;

        final int[] part = new int[Job.MOST_WANTS];
        int parts;
        private final boolean[] fits = new boolean[SETS];
        private final int[] fewest = new int[SETS];
        private final Board spare = new Board();
        // While a BOARD is made: which HUB picks each relay, and how many of its points are taken.
        private final int[] relayPicker = new int[RELAYS];
        private final int[] pointsTaken = new int[RELAYS];
        private int relays;
        private int bars;
        private boolean isMade;
        private Board target = spare;
        private final int[] worth = new int[Job.MOST_WANTS];

        boolean hasPart(int r) {
            return r >= 0 && r < parts;
        }

        void partWants(Job job) {
            int all = (1 << job.wants) - 1;
            for (int set = 1; set <= all; set++) {
                fits[set] = makeBoard(job, set, spare);
                int first = firstPart(set);
                fewest[set] = first == 0 ? NO_WAY : fewest[set & ~first] + 1;
            }
            parts = 0;
            int left = all;
            while (left != 0 && parts != NONE && parts < Job.MOST_WANTS) {
                int first = firstPart(left);
                part[parts] = first;
                left &= ~first;
                parts = first == 0 ? NONE : parts + 1;
            }
        }

        /** Of the parts that leave the fewest RUNS for the rest, the least that has the least WANT; 0: none. */
        private int firstPart(int set) {
            int leastWant = set & -set;
            int best = 0;
            int fewestLeft = NO_WAY;
            for (int one = set; one > 0; one = (one - 1) & set) {
                boolean may = (one & leastWant) != 0 && fits[one];
                if (may && fewest[set & ~one] <= fewestLeft) {
                    fewestLeft = fewest[set & ~one];
                    best = one;
                }
            }
            return fewestLeft < NO_WAY ? best : 0;
        }

        /** Makes the BOARD for a set of WANTS; false, if the set needs more than a BOARD has. */
        boolean makeBoard(Job job, int set, Board board) {
            target = board;
            target.wires = 0;
            relays = 0;
            bars = 0;
            isMade = Integer.bitCount(set) <= WHEELS;
            if (isMade) {
                wireBreaks(job);
                wireWants(job, set, true);
                wireWants(job, set, false);
            }
            return isMade;
        }

        private void link(int from, int to) {
            isMade &= target.add(from, to);
        }

        private void wireBreaks(Job job) {
            int j = 0;
            for (int order = 1; order <= ORDERS; order++) {
                int n = job.breakColumn[order];
                if (n != 0) {
                    link(HUB_C + n - 1, HUB_KA + j);
                    link(HUB_A + n - 1, HUB_KB + j);
                    link(HUB_U + j, HUB_B + order - 1);
                    j++;
                }
            }
        }

        private void wireWants(Job job, int set, boolean adding) {
            int wheel = 0;
            for (int want = 0; want < job.wants && isMade; want++) {
                if ((set >> want & 1) != 0) {
                    if (adding) {
                        wireAdding(job, want, wheel);
                    } else {
                        wirePrinting(job, want, wheel);
                    }
                    wheel++;
                }
            }
        }

        private void wireAdding(Job job, int want, int wheel) {
            int field = job.wantField[want];
            if (field == Job.COUNT) {
                link(HUB_E, HUB_I + wheel * DIGITS);
            } else {
                int last = job.fieldLast[field];
                for (int n = last; n >= job.fieldFirst[field]; n--) {
                    link(HUB_C + n - 1, HUB_I + wheel * DIGITS + last - n);
                }
            }
            int over = job.wantOver[want];
            if (over == 0) {
                link(HUB_E, HUB_PLUS + wheel);
                return;
            }
            int point = takePoint(HUB_X + over - 1);
            if (point != NOTHING) {
                link(HUB_E, HUB_RC + point);
                link(HUB_RN + point, HUB_PLUS + wheel);
                link(HUB_RT + point, HUB_MINUS + wheel);
            }
        }

        private void wirePrinting(Job job, int want, int wheel) {
            int total = HUB_T + job.wantOrder[want] - 1;
            for (int d = job.wantDigits[want] - 1; d >= 0 && isMade; d--) {
                int point = takePoint(total);
                isMade &= bars < BARS;
                if (isMade) {
                    link(HUB_O + wheel * DIGITS + d, HUB_RC + point);
                    link(HUB_RT + point, HUB_P + bars);
                    bars++;
                }
            }
            link(total, HUB_CLEAR + wheel);
        }

        /** The next point of a relay that a HUB picks, of a new one, if need be; NOTHING, if there is no relay left. */
        private int takePoint(int picker) {
            int relay = 0;
            while (relay < relays && (relayPicker[relay] != picker || pointsTaken[relay] >= POINTS)) {
                relay++;
            }
            if (relay >= RELAYS) {
                isMade = false;
                return NOTHING;
            }
            if (relay == relays) {
                relayPicker[relay] = picker;
                pointsTaken[relay] = 0;
                relays++;
                link(picker, HUB_S + relay);
            }
            int point = relay * POINTS + pointsTaken[relay];
            pointsTaken[relay]++;
            return point;
        }

        /** The LINES WANTED of the dealt CARDS for a set of WANTS. */
        void writeWanted(Job job, int set, Boxes boxes, Sheet sheet) {
            sheet.lines = 0;
            Arrays.fill(worth, 0);
            for (int k = 0; k < boxes.deckSize; k++) {
                int cell = boxes.deck[k];
                for (int want = 0; want < job.wants; want++) {
                    addWorth(job, want, boxes, cell);
                }
                boolean isLast = k + 1 == boxes.deckSize;
                int greatest = isLast ? ORDERS : orderBehind(job, boxes, cell, boxes.deck[k + 1]);
                for (int order = 1; order <= greatest; order++) {
                    writeOrder(job, set, order, sheet);
                }
            }
        }

        private void addWorth(Job job, int want, Boxes boxes, int cell) {
            int field = job.wantField[want];
            int number = field == Job.COUNT ? 1 : 0;
            if (field != Job.COUNT) {
                for (int n = job.fieldFirst[field]; n <= job.fieldLast[field]; n++) {
                    int digit = boxes.digitOf(cell, n);
                    number = number * 10 + (digit == BLANK ? 0 : digit);
                }
            }
            int over = job.wantOver[want];
            boolean takesAway = over != 0 && boxes.isOver(cell, over);
            worth[want] = (worth[want] + (takesAway ? -number : number)) % WHEEL_TURN;
        }

        private static int orderBehind(Job job, Boxes boxes, int cell, int nextCell) {
            int greatest = 0;
            for (int order = 1; order <= ORDERS; order++) {
                int n = job.breakColumn[order];
                if (n != 0 && boxes.digitOf(cell, n) != boxes.digitOf(nextCell, n)) {
                    greatest = order;
                }
            }
            return greatest;
        }

        /** Each WANT of the set has its own bars, also in LINES of other orders. */
        private void writeOrder(Job job, int set, int order, Sheet sheet) {
            boolean begun = false;
            int bar = 1;
            for (int want = 0; want < job.wants; want++) {
                if ((set >> want & 1) != 0) {
                    if (job.wantOrder[want] == order) {
                        if (!begun) {
                            sheet.addBlankLine();
                            begun = true;
                        }
                        for (int d = 0; d < job.wantDigits[want]; d++) {
                            int place = job.wantDigits[want] - 1 - d;
                            sheet.write(bar + d, Machine.decimalOf(worth[want], place));
                        }
                        worth[want] = 0;
                    }
                    bar += job.wantDigits[want];
                }
            }
        }
    }

    /** The BOARDS kept, and the order in which some of them end first on FRIDAY. */
    private static final class Shelf {
        static final int PLACES = 8;
        static final int MOST_TOLD = 6;
        static final int BYTES_EACH = 5;
        static final int MINUTES_A_WIRE = 2;
        static final int MOST_ORDERS = 720;
        static final int NEVER = 1000000000;

        final Board[] boards = new Board[PLACES];
        private int placesKept;
        private int told;
        private final int[] place = new int[MOST_TOLD];
        private final int[] minutes = new int[MOST_TOLD];
        private final int[] latestEnd = new int[MOST_TOLD];
        // What it costs to set one behind another; the row behind the last is that of the empty BOARD.
        private final int[] costs = new int[(MOST_TOLD + 1) * MOST_TOLD];
        private final int[] tried = new int[MOST_TOLD];
        final int[] bestOrder = new int[MOST_TOLD];
        int bestTold;

        Shelf() {
            for (int k = 0; k < PLACES; k++) {
                boards[k] = new Board();
            }
        }

        static boolean isPlace(int k) {
            return k >= 0 && k < PLACES;
        }

        boolean holds(int k) {
            return isPlace(k) && (placesKept >> k & 1) != 0;
        }

        void put(int k, Board board) {
            boards[k].copyFrom(board);
            placesKept |= 1 << k;
        }

        int wiresApart(int a, int b) {
            return boards[a].wiresApart(boards[b]);
        }

        boolean readFriday(Tape tape) {
            int all = tape.length / BYTES_EACH;
            if (tape.length % BYTES_EACH != 0 || all < 1 || all > MOST_TOLD) {
                return false;
            }
            for (int i = 0; i < all; i++) {
                if (!holds(tape.bytes[i * BYTES_EACH])) {
                    return false;
                }
            }
            told = all;
            for (int i = 0; i < all; i++) {
                int start = i * BYTES_EACH;
                place[i] = tape.bytes[start];
                minutes[i] = tape.bytes[start + 1] * 256 + tape.bytes[start + 2];
                latestEnd[i] = tape.bytes[start + 3] * 256 + tape.bytes[start + 4];
            }
            return true;
        }

        /** The minute at which all told have ended in the best order; NONE, if none does. */
        int planFriday() {
            priceSettings();
            for (int i = 0; i < told; i++) {
                tried[i] = i;
            }
            int best = NEVER;
            boolean more = true;
            // Orders come as told: one that ends no sooner than an order ahead of it is no better.
            for (int n = 0; n < MOST_ORDERS && more; n++) {
                int end = endOfTried();
                if (end < best) {
                    best = end;
                    bestTold = told;
                    System.arraycopy(tried, 0, bestOrder, 0, told);
                }
                more = goToNextOrder();
            }
            return best == NEVER ? NONE : best;
        }

        private void priceSettings() {
            for (int i = 0; i < told; i++) {
                costs[MOST_TOLD * MOST_TOLD + i] = boards[place[i]].wires * MINUTES_A_WIRE;
                for (int j = 0; j < i; j++) {
                    int cost = wiresApart(place[i], place[j]) * MINUTES_A_WIRE;
                    costs[i * MOST_TOLD + j] = cost;
                    costs[j * MOST_TOLD + i] = cost;
                }
            }
        }

        private int endOfTried() {
            int minute = 0;
            int row = MOST_TOLD;
            for (int k = 0; k < told; k++) {
                int i = tried[k];
                minute += costs[row * MOST_TOLD + i] + minutes[i];
                if (minute > latestEnd[i]) {
                    return NEVER;
                }
                row = i;
            }
            return minute;
        }

        /** The next order, one by one the one told first; false behind the last. */
        private boolean goToNextOrder() {
            int rising = told - 2;
            while (rising >= 0 && tried[rising] > tried[rising + 1]) {
                rising--;
            }
            if (rising < 0) {
                return false;
            }
            int greater = told - 1;
            while (greater > rising && tried[greater] < tried[rising]) {
                greater--;
            }
            swapTried(rising, greater);
            int low = rising + 1;
            for (int high = told - 1; high > low; high--) {
                swapTried(low, high);
                low++;
            }
            return true;
        }

        private void swapTried(int a, int b) {
            int was = tried[a];
            tried[a] = tried[b];
            tried[b] = was;
        }
    }
}
