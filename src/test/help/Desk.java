import java.util.NoSuchElementException;

/** What the tests by hand share: a hall at work, tapes, texts, CARDS and LINES for it, and answers that are due. */
public abstract class Desk {
    private static int wrong = 0;
    private static int answers = 0;
    private static String sentence = "";
    static PlugHall hall = new PlugHall();

    Desk() {
    }

    /** A new object, for a promise or for a sentence of the document. */
    static void fresh(String what) {
        sentence = what;
        hall = new PlugHall();
    }

    static void fresh(int promise) {
        fresh("promise " + promise);
    }

    /** What follows is said of another promise, of the same object. */
    static void goOn(int promise) {
        sentence = "promise " + promise;
    }

    static void due(String what, long got, long want) {
        answers++;
        if (got != want) {
            wrong++;
            System.out.println(sentence + ": " + what + " answered " + got + ", due is " + want);
        }
    }

    static void due(String what, boolean got, boolean want) {
        due(what, got ? 1 : 0, want ? 1 : 0);
    }

    static void dueText(String what, String got, String want) {
        answers++;
        if (!got.equals(want)) {
            wrong++;
            System.out.println(sentence + ": " + what + " shows\n  " + got + "\ndue is\n  " + want);
        }
    }

    interface Call {
        int answer();
    }

    static void dueThrow(String what, Call call) {
        answers++;
        try {
            int got = call.answer();
            wrong++;
            System.out.println(sentence + ": " + what + " answered " + got + ", due is an exception");
        } catch (NoSuchElementException e) {
            // as due
        }
    }

    static void tell() {
        System.out.println(wrong == 0 ? answers + " answers, all as due" : wrong + " answers are not as due");
        if (wrong != 0) {
            System.exit(1);
        }
    }

    static void tape(int... bytes) {
        for (int i = 0; i < bytes.length || i == 0; i += 20) {
            int[] n = new int[5];
            for (int j = 0; j < 20 && i + j < bytes.length; j++) {
                n[j / 4] |= (bytes[i + j] & 255) << 24 - 8 * (j % 4);
            }
            hall.feed(n[0], n[1], n[2], n[3], n[4]);
        }
        if (!hall.end(bytes.length)) {
            throw new IllegalStateException("end");
        }
    }

    static void text(String s) {
        int[] b = new int[s.length()];
        for (int i = 0; i < b.length; i++) {
            b[i] = s.charAt(i);
        }
        tape(b);
    }

    static int board(String s) {
        text(s);
        return hall.board();
    }

    static void dueBoard(String s, int wires) {
        due("board " + s, board(s), wires);
        due("fault " + s, hall.fault(), 0);
    }

    static void fault(String s, int kind, int place) {
        due("board " + s, board(s), -1 - place);
        due("fault " + s, hall.fault(), kind);
    }

    static int job(String s) {
        text(s);
        return hall.job();
    }

    static void dueJob(String s, int wants) {
        due("job " + s, job(s), wants);
        due("fault " + s, hall.fault(), 0);
    }

    static void jobFault(String s, int kind, int place) {
        due("job " + s, job(s), -1 - place);
        due("fault " + s, hall.fault(), kind);
    }

    /** A sign a COLUMN: a digit, '.' blank, A to J a digit PUNCHED OVER, '_' blank PUNCHED OVER; the rest is blank. */
    static int[] columns(String s, int length) {
        int[] b = new int[length];
        for (int i = 0; i < length; i++) {
            char c = i < s.length() ? s.charAt(i) : '.';
            b[i] = c == '.' ? 15 : c == '_' ? 31 : c >= 'A' ? c - 'A' + 16 : c - '0';
        }
        return b;
    }

    static int card(int box, String s) {
        tape(columns(s, 20));
        return hall.card(box);
    }

    static void cards(int box, String... all) {
        hall.empty(box);
        for (String s : all) {
            card(box, s);
        }
    }

    static String[] copies(String s, int n) {
        String[] all = new String[n];
        java.util.Arrays.fill(all, s);
        return all;
    }

    static void lines(String... all) {
        int[] b = new int[12 * all.length];
        for (int i = 0; i < all.length; i++) {
            System.arraycopy(columns(all[i], 12), 0, b, 12 * i, 12);
        }
        tape(b);
    }

    static void dueLine(int line, String s) {
        int[] b = columns(s, 12);
        for (int n = 1; n <= 12; n++) {
            due("bar(" + line + ", " + n + ")", hall.bar(line, n), b[n - 1]);
        }
    }

    static void dueLines(String... all) {
        due("lines", hall.ran(2), all.length);
        for (int i = 0; i < all.length && i < hall.ran(2); i++) {
            dueLine(i, all[i]);
        }
    }

    static void dueWanted(int line, String s) {
        int[] b = columns(s, 12);
        for (int n = 1; n <= 12; n++) {
            due("wantedAt(" + line + ", " + n + ")", hall.wantedAt(line, n), b[n - 1]);
        }
    }

    static void dueWheels(int a, int b, int c, int d) {
        due("wheel(1)", hall.wheel(1), a);
        due("wheel(2)", hall.wheel(2), b);
        due("wheel(3)", hall.wheel(3), c);
        due("wheel(4)", hall.wheel(4), d);
    }

    static void dueColumns(int box, int k, String s) {
        int[] b = columns(s, 20);
        for (int n = 1; n <= 20; n++) {
            due("column(" + box + ", " + k + ", " + n + ")", hall.column(box, k, n), b[n - 1]);
        }
    }

    /** A RUN of BOX 0 by a new BOARD, into BOX 7. */
    static int runOf(String text) {
        int wires = board(text);
        if (wires < 0) {
            due("board " + text, wires, 0);
        }
        return hall.run(0, 7);
    }

    static void dueRun(String text, int end) {
        due("END by " + text, runOf(text), end);
    }

    static String times(String s, int n) {
        StringBuilder b = new StringBuilder();
        for (int i = 0; i < n; i++) {
            b.append(s);
        }
        return b.toString();
    }

    /** n WIRES that no HUB has too many of, seven bytes each. */
    static String wires(int n) {
        StringBuilder b = new StringBuilder();
        for (int i = 0; i < n; i++) {
            b.append('c').append((char) ('1' + i / 8)).append("-a").append((char) ('1' + i % 8)).append(" ;");
        }
        return b.toString();
    }
}
