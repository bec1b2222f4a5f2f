import java.util.ArrayDeque;
import java.util.ArrayList;
import java.util.Arrays;
import java.util.Collections;
import java.util.HashMap;
import java.util.HashSet;
import java.util.List;
import java.util.Map;
import java.util.NoSuchElementException;
import java.util.Random;
import java.util.Set;
import java.util.TreeMap;
import java.util.TreeSet;

/** Random runs of calls, each answer held against a slow model that is written from the document alone. */
public final class ModelTest {
    private static final int ROUNDS = 300;
    private static final int MOST_CALLS = 512;
    private static final int THROWS = Integer.MIN_VALUE;
    private static int wrong = 0;

    public static void main(String[] args) {
        int rounds = System.getProperty("rounds") == null ? ROUNDS : Integer.parseInt(System.getProperty("rounds"));
        int from = System.getProperty("seed") == null ? 1 : Integer.parseInt(System.getProperty("seed"));
        Map<String, Map<Integer, Integer>> seen = new TreeMap<>();
        for (int seed = from; seed < from + rounds && wrong == 0; seed++) {
            new Round(seed, seen).play();
        }
        if (System.getProperty("seen") != null) {
            seen.forEach((k, v) -> System.out.println(k + " " + v));
        }
        System.out.println(wrong == 0 ? "all answers are as the model's" : wrong + " answers are not as the model's");
        if (wrong != 0) {
            System.exit(1);
        }
    }

    // ---------------------------------------------------------------- the model

    static final String[] WORDS = {"c", "a", "x", "e", "u", "t", "o", "z", "i", "plus", "minus", "clear", "p", "s",
        "ka", "kb", "b", "q", "m", "halt", "rc", "rn", "rt"};
    static final int[] TOP = {20, 20, 20, 0, 4, 3, 4, 4, 4, 4, 4, 4, 12, 4, 4, 4, 3, 20, 0, 0, 4, 4, 4};
    static final Map<String, Integer> DOT = Map.of("o", 6, "i", 6, "rc", 3, "rn", 3, "rt", 3);

    static String wordOf(String hub) {
        return hub.replaceAll("[0-9.]", "");
    }

    static List<String> hubsOf(String word) {
        List<String> all = new ArrayList<>();
        int top = TOP[Arrays.asList(WORDS).indexOf(word)];
        if (top == 0) {
            all.add(word);
        }
        for (int n = 1; n <= top; n++) {
            if (DOT.containsKey(word)) {
                for (int d = 1; d <= DOT.get(word); d++) {
                    all.add(word + n + "." + d);
                }
            } else {
                all.add(word + n);
            }
        }
        return all;
    }

    static final List<String> GIVERS = new ArrayList<>();
    static {
        for (int i = 0; i < 8; i++) {
            GIVERS.addAll(hubsOf(WORDS[i]));
        }
    }

    static int mostWires(String hub) {
        int w = Arrays.asList(WORDS).indexOf(wordOf(hub));
        return w >= 8 && w < 20 ? 1 : 8;
    }

    static final class Fault extends RuntimeException {
        private static final long serialVersionUID = 1L;
        final int kind;
        final int place;
        Fault(int kind, int place) {
            this.kind = kind;
            this.place = place;
        }
    }

    static final class Token {
        char kind;
        int place;
        String text;
    }

    static final class Result {
        int end;
        List<List<Integer>> lines = new ArrayList<>();
        int[] wheels = new int[4];
        List<int[]> punched = new ArrayList<>();
        int[] figures = {0, 0, 0, 0, 0, -1, -1};

        String outcome() {
            StringBuilder b = new StringBuilder();
            b.append(end).append('|').append(lines).append('|').append(Arrays.toString(wheels));
            for (int[] c : punched) {
                b.append(Arrays.toString(c));
            }
            return b.toString();
        }
    }

    static final class Stop extends RuntimeException {
        private static final long serialVersionUID = 1L;
    }

    static final class Want {
        String field;
        int w;
        int o;
        int over;
    }

    static final class JobModel {
        Map<String, int[]> fields = new HashMap<>();
        int[] breaks = new int[4];
        List<Want> wants = new ArrayList<>();
    }

    static final class Model {
        List<Integer> tape = new ArrayList<>();
        List<List<int[]>> boxes = new ArrayList<>();
        List<String[]> board = new ArrayList<>();
        List<List<String[]>> shelf = new ArrayList<>(Collections.nCopies(8, null));
        JobModel job = new JobModel();
        List<Integer> parts = new ArrayList<>();
        int fault = 0;
        Result latest = null;
        List<Integer> found = new ArrayList<>();
        int testSet = 0;
        int shown = 0;
        List<List<Integer>> wantedLines = new ArrayList<>();
        int neededSet = 0;
        List<Integer> unseen = new ArrayList<>();
        List<int[]> moves = new ArrayList<>();
        List<Integer> friday = new ArrayList<>();

        Model() {
            for (int i = 0; i < 8; i++) {
                boxes.add(new ArrayList<>());
            }
        }

        static boolean box(int b) {
            return b >= 0 && b < 8;
        }

        List<Integer> takeTape() {
            List<Integer> had = tape;
            tape = new ArrayList<>();
            return had;
        }

        int feed(int... n) {
            if (tape.size() + 20 > 740) {
                return -1;
            }
            for (int v : n) {
                for (int s = 24; s >= 0; s -= 8) {
                    tape.add((v >> s) & 0xff);
                }
            }
            return tape.size();
        }

        int end(int n) {
            if (n < 0 || n > tape.size()) {
                return 0;
            }
            tape = new ArrayList<>(tape.subList(0, n));
            return 1;
        }

        int card(int b) {
            List<Integer> t = takeTape();
            if (!box(b) || boxes.get(b).size() >= 40 || t.size() != 20) {
                return -1;
            }
            int[] c = new int[20];
            for (int i = 0; i < 20; i++) {
                int v = t.get(i);
                if (!(v <= 9 || v == 15 || v >= 16 && v <= 25 || v == 31)) {
                    return -1;
                }
                c[i] = v;
            }
            boxes.get(b).add(c);
            return boxes.get(b).size();
        }

        int cards(int b) {
            return box(b) ? boxes.get(b).size() : -1;
        }

        int column(int b, int k, int n) {
            if (!box(b) || k < 0 || k >= boxes.get(b).size() || n < 1 || n > 20) {
                return THROWS;
            }
            return boxes.get(b).get(k)[n - 1];
        }

        int empty(int b) {
            if (!box(b)) {
                return -1;
            }
            int had = boxes.get(b).size();
            boxes.get(b).clear();
            return had;
        }

        // -------- texts

        static List<Token> tokens(List<Integer> t, int room) {
            List<Token> all = new ArrayList<>();
            int i = 0;
            while (i < t.size() && i < room) {
                int v = t.get(i);
                if (v == 32 || v == 10) {
                    i++;
                    continue;
                }
                Token k = new Token();
                k.place = i;
                int j = i;
                if (v >= 'a' && v <= 'z') {
                    while (j < t.size() && t.get(j) >= 'a' && t.get(j) <= 'z') {
                        j++;
                    }
                    k.kind = j - i <= 5 ? 'w' : '?';
                } else if (v >= '0' && v <= '9') {
                    while (j < t.size() && t.get(j) >= '0' && t.get(j) <= '9') {
                        j++;
                    }
                    k.kind = j - i <= 2 ? 'n' : '?';
                } else {
                    j++;
                    k.kind = v == '-' || v == ';' || v == '.' ? (char) v : '?';
                }
                StringBuilder b = new StringBuilder();
                for (int p = i; p < j; p++) {
                    b.append((char) (int) t.get(p));
                }
                k.text = b.toString();
                all.add(k);
                i = j;
            }
            Token end = new Token();
            end.kind = t.size() > room ? '!' : '$';
            end.place = Math.min(t.size(), room);
            end.text = "";
            all.add(end);
            return all;
        }

        static Token need(List<Token> ts, int[] at, char kind) {
            Token k = ts.get(at[0]);
            if (k.kind != kind) {
                throw new Fault(1, k.place);
            }
            at[0]++;
            return k;
        }

        static int number(List<Token> ts, int[] at, int low, int high) {
            Token k = need(ts, at, 'n');
            int v = Integer.parseInt(k.text);
            if (v < low || v > high) {
                throw new Fault(2, k.place);
            }
            return v;
        }

        static int uses(List<String[]> wires, String hub) {
            int n = 0;
            for (String[] w : wires) {
                n += w[0].equals(hub) ? 1 : 0;
                n += w[1].equals(hub) ? 1 : 0;
            }
            return n;
        }

        static String hub(List<Token> ts, int[] at, List<String[]> wires, String other) {
            Token k = need(ts, at, 'w');
            int w = Arrays.asList(WORDS).indexOf(k.text);
            if (w < 0) {
                throw new Fault(1, k.place);
            }
            if (other == null && wires.size() == 60) {
                throw new Fault(4, k.place);
            }
            String hub = k.text;
            if (TOP[w] > 0) {
                hub += number(ts, at, 1, TOP[w]);
            }
            if (DOT.containsKey(k.text)) {
                need(ts, at, '.');
                hub += "." + number(ts, at, 1, DOT.get(k.text));
            }
            if (hub.equals(other) || uses(wires, hub) + 1 > mostWires(hub)) {
                throw new Fault(3, k.place);
            }
            return hub;
        }

        int board() {
            List<Token> ts = tokens(takeTape(), 700);
            List<String[]> wires = new ArrayList<>();
            int[] at = {0};
            try {
                while (ts.get(at[0]).kind != '$') {
                    String a = hub(ts, at, wires, null);
                    need(ts, at, '-');
                    String b = hub(ts, at, wires, a);
                    need(ts, at, ';');
                    wires.add(new String[] {a, b});
                }
            } catch (Fault f) {
                fault = f.kind;
                return -1 - f.place;
            }
            fault = 0;
            board = wires;
            return board.size();
        }

        static boolean isKey(String s) {
            return Arrays.asList("field", "break", "sum", "count", "over").contains(s);
        }

        static String name(List<Token> ts, int[] at) {
            Token k = need(ts, at, 'w');
            if (isKey(k.text)) {
                throw new Fault(1, k.place);
            }
            return k.text;
        }

        int job() {
            List<Token> ts = tokens(takeTape(), 300);
            JobModel j = new JobModel();
            int[] at = {0};
            try {
                while (ts.get(at[0]).kind != '$') {
                    jobLine(ts, at, j);
                    need(ts, at, ';');
                }
            } catch (Fault f) {
                fault = f.kind;
                return -1 - f.place;
            }
            fault = 0;
            job = j;
            partJob();
            return job.wants.size();
        }

        static void jobLine(List<Token> ts, int[] at, JobModel j) {
            Token k = need(ts, at, 'w');
            if (k.text.equals("field")) {
                if (j.fields.size() == 6) {
                    throw new Fault(4, k.place);
                }
                int place = ts.get(at[0]).place;
                String name = name(ts, at);
                if (j.fields.containsKey(name)) {
                    throw new Fault(3, place);
                }
                int n = number(ts, at, 1, 20);
                int m = number(ts, at, n, Math.min(20, n + 5));
                j.fields.put(name, new int[] {n, m});
            } else if (k.text.equals("break")) {
                int n = number(ts, at, 1, 20);
                int place = ts.get(at[0]).place;
                int o = number(ts, at, 1, 3);
                if (j.breaks[o] != 0) {
                    throw new Fault(3, place);
                }
                j.breaks[o] = n;
            } else if (k.text.equals("sum") || k.text.equals("count")) {
                if (j.wants.size() == 8) {
                    throw new Fault(4, k.place);
                }
                Want w = new Want();
                if (k.text.equals("sum")) {
                    int place = ts.get(at[0]).place;
                    w.field = name(ts, at);
                    if (!j.fields.containsKey(w.field)) {
                        throw new Fault(3, place);
                    }
                }
                w.w = number(ts, at, 1, 6);
                w.o = number(ts, at, 1, 3);
                Token next = ts.get(at[0]);
                if (w.field != null && next.kind == 'w' && next.text.equals("over")) {
                    at[0]++;
                    w.over = number(ts, at, 1, 20);
                }
                j.wants.add(w);
            } else {
                throw new Fault(1, k.place);
            }
        }

        // -------- runs

        static Set<String> net(List<String[]> wires, int picked, String hub) {
            Set<String> all = new HashSet<>();
            ArrayDeque<String> open = new ArrayDeque<>();
            all.add(hub);
            open.add(hub);
            while (!open.isEmpty()) {
                String h = open.poll();
                List<String> near = new ArrayList<>();
                for (String[] w : wires) {
                    if (w[0].equals(h)) {
                        near.add(w[1]);
                    }
                    if (w[1].equals(h)) {
                        near.add(w[0]);
                    }
                }
                if (h.startsWith("r")) {
                    String rest = h.substring(2);
                    int r = rest.charAt(0) - '1';
                    String side = (picked >> r & 1) != 0 ? "rt" : "rn";
                    if (h.startsWith("rc")) {
                        near.add(side + rest);
                    } else if (h.startsWith(side)) {
                        near.add("rc" + rest);
                    }
                }
                for (String n : near) {
                    if (all.add(n)) {
                        open.add(n);
                    }
                }
            }
            return all;
        }

        /** The numbers of the HUBS of a NET that give, rising. */
        static List<Integer> giving(Set<String> net, Map<String, Integer> gives) {
            List<Integer> all = new ArrayList<>();
            for (String h : net) {
                if (gives.containsKey(h)) {
                    all.add(GIVERS.indexOf(h));
                }
            }
            Collections.sort(all);
            return all;
        }

        static Integer take(List<String[]> wires, int picked, String hub, Map<String, Integer> gives) {
            List<Integer> g = giving(net(wires, picked, hub), gives);
            return g.isEmpty() ? null : gives.get(GIVERS.get(g.get(0)));
        }

        static Result run(List<String[]> wires, List<int[]> deck, int room) {
            Result r = new Result();
            try {
                for (int k = 0; k < deck.size(); k++) {
                    Map<String, Integer> g = new HashMap<>();
                    for (int n = 1; n <= 20; n++) {
                        int v = deck.get(k)[n - 1];
                        if (v % 16 != 15) {
                            g.put("c" + n, v % 16);
                        }
                        if (v >= 16) {
                            g.put("x" + n, 1);
                        }
                        if (k + 1 < deck.size() && deck.get(k + 1)[n - 1] % 16 != 15) {
                            g.put("a" + n, deck.get(k + 1)[n - 1] % 16);
                        }
                    }
                    g.put("e", 1);
                    Map<String, Integer> t = cycle(wires, g, true, r, room);
                    r.figures[0]++;
                    boolean halt = t.containsKey("halt");
                    int top = 0;
                    for (int n = 1; n <= 3; n++) {
                        top = t.containsKey("b" + n) ? n : top;
                    }
                    if (halt || k == deck.size() - 1) {
                        top = 3;
                    }
                    for (int n = 1; n <= top; n++) {
                        total(wires, n, r, room);
                    }
                    if (halt) {
                        r.end = 1;
                        break;
                    }
                }
            } catch (Stop s) {
                // r.end says why
            }
            r.figures[2] = r.lines.size();
            r.figures[3] = r.punched.size();
            return r;
        }

        static void total(List<String[]> wires, int order, Result r, int room) {
            Map<String, Integer> g = new HashMap<>();
            g.put("t" + order, 1);
            for (int w = 1; w <= 4; w++) {
                int v = r.wheels[w - 1];
                String digits = String.format("%06d", Math.abs(v));
                for (int d = 1; d <= 6; d++) {
                    g.put("o" + w + "." + d, digits.charAt(6 - d) - '0');
                }
                if (v < 0) {
                    g.put("z" + w, 1);
                }
            }
            cycle(wires, g, false, r, room);
            r.figures[1]++;
        }

        static Map<String, Integer> cycle(List<String[]> wires, Map<String, Integer> g, boolean card, Result r,
                int room) {
            int picked = 0;
            for (int n = 1; n <= 4; n++) {
                if (take(wires, 0, "s" + n, g) != null) {
                    picked |= 1 << (n - 1);
                }
            }
            if (card) {
                Map<String, Integer> us = new HashMap<>();
                for (int n = 1; n <= 4; n++) {
                    Integer ka = take(wires, picked, "ka" + n, g);
                    Integer kb = take(wires, picked, "kb" + n, g);
                    if (ka == null ? kb != null : !ka.equals(kb)) {
                        us.put("u" + n, 1);
                    }
                }
                g.putAll(us);
            }
            int least = 1000;
            for (String h : g.keySet()) {
                List<Integer> two = giving(net(wires, picked, h), g);
                if (two.size() >= 2 && two.get(0) < least) {
                    least = two.get(0);
                    r.end = 2;
                    r.figures[5] = two.get(0);
                    r.figures[6] = two.get(1);
                }
            }
            if (least < 1000) {
                throw new Stop();
            }
            Map<String, Integer> t = new HashMap<>();
            for (String[] w : wires) {
                for (String h : w) {
                    if (mostWires(h) == 1) {
                        Integer v = take(wires, picked, h, g);
                        if (v != null) {
                            t.put(h, v);
                        }
                    }
                }
            }
            act(t, r, room);
            return t;
        }

        static void act(Map<String, Integer> t, Result r, int room) {
            List<Integer> line = new ArrayList<>();
            for (int n = 1; n <= 12; n++) {
                line.add(t.getOrDefault("p" + n, 15));
            }
            if (!line.equals(Collections.nCopies(12, 15))) {
                if (r.lines.size() == 60) {
                    r.end = 3;
                    throw new Stop();
                }
                r.lines.add(line);
            }
            for (int w = 1; w <= 4; w++) {
                int number = 0;
                int ten = 1;
                for (int d = 1; d <= 6; d++) {
                    number += ten * t.getOrDefault("i" + w + "." + d, 0);
                    ten *= 10;
                }
                boolean plus = t.containsKey("plus" + w);
                boolean minus = t.containsKey("minus" + w);
                int sum = r.wheels[w - 1];
                if (plus && !minus) {
                    sum += number;
                }
                if (minus && !plus) {
                    sum -= number;
                }
                if (sum > 999999) {
                    sum -= 1000000;
                    r.figures[4]++;
                }
                if (sum < -999999) {
                    sum += 1000000;
                    r.figures[4]++;
                }
                r.wheels[w - 1] = t.containsKey("clear" + w) ? 0 : sum;
            }
            if (t.containsKey("m")) {
                if (r.punched.size() == room) {
                    r.end = 3;
                    throw new Stop();
                }
                int[] c = new int[20];
                for (int n = 1; n <= 20; n++) {
                    c[n - 1] = t.getOrDefault("q" + n, 15);
                }
                r.punched.add(c);
            }
        }

        int run(int b, int to) {
            if (!box(b) || !box(to) || b == to) {
                return -1;
            }
            latest = run(board, boxes.get(b), 40 - boxes.get(to).size());
            boxes.get(to).addAll(latest.punched);
            return latest.end;
        }

        int ran(int what) {
            return latest == null || what < 0 || what > 6 ? -1 : latest.figures[what];
        }

        int bar(int line, int n) {
            if (latest == null || line < 0 || line >= latest.lines.size() || n < 1 || n > 12) {
                return THROWS;
            }
            return latest.lines.get(line).get(n - 1);
        }

        int wheel(int w) {
            return latest == null || w < 1 || w > 4 ? THROWS : latest.wheels[w - 1];
        }

        static int rank(int[] c, int n) {
            return c[n - 1] % 16 == 15 ? -1 : c[n - 1] % 16;
        }

        int pass(int b, int n) {
            if (!box(b) || n < 1 || n > 20) {
                return 0;
            }
            boxes.get(b).sort((p, q) -> Integer.compare(rank(p, n), rank(q, n)));
            return 1;
        }

        static List<String[]> without(List<String[]> wires, int w) {
            List<String[]> rest = new ArrayList<>(wires);
            rest.remove(w);
            return rest;
        }

        int idle(int b) {
            if (!box(b)) {
                return -1;
            }
            found = new ArrayList<>();
            String whole = run(board, boxes.get(b), 40).outcome();
            for (int w = 0; w < board.size(); w++) {
                if (run(without(board, w), boxes.get(b), 40).outcome().equals(whole)) {
                    found.add(w);
                }
            }
            return found.size();
        }

        static List<List<Integer>> lines(List<Integer> t) {
            List<List<Integer>> all = new ArrayList<>();
            for (int v : t) {
                if (v > 9 && v != 15) {
                    return null;
                }
            }
            if (t.size() % 12 != 0) {
                return null;
            }
            for (int i = 0; i < t.size(); i += 12) {
                all.add(t.subList(i, i + 12));
            }
            return all;
        }

        int missing(int b) {
            List<List<Integer>> told = lines(takeTape());
            if (told == null || !box(b)) {
                return -1;
            }
            found = new ArrayList<>();
            for (int w = 0; w < board.size(); w++) {
                if (run(without(board, w), boxes.get(b), 40).lines.equals(told)) {
                    found.add(w);
                }
            }
            return found.size();
        }

        int wire(int k) {
            return k >= 0 && k < found.size() ? found.get(k) : -1;
        }

        int tests(int b) {
            if (!box(b)) {
                return -1;
            }
            int n = Math.min(10, boxes.get(b).size());
            List<Set<Integer>> shows = new ArrayList<>();
            Set<Integer> any = new HashSet<>();
            for (int k = 0; k < n; k++) {
                List<int[]> deck = List.of(boxes.get(b).get(k));
                String whole = run(board, deck, 40).outcome();
                Set<Integer> s = new HashSet<>();
                for (int w = 0; w < board.size(); w++) {
                    if (!run(without(board, w), deck, 40).outcome().equals(whole)) {
                        s.add(w);
                    }
                }
                shows.add(s);
                any.addAll(s);
            }
            shown = any.size();
            for (int size = 0; size <= n; size++) {
                for (int set = 0; set < 1 << n; set++) {
                    if (Integer.bitCount(set) == size) {
                        Set<Integer> s = new HashSet<>();
                        for (int k = 0; k < n; k++) {
                            if ((set >> k & 1) != 0) {
                                s.addAll(shows.get(k));
                            }
                        }
                        if (s.equals(any)) {
                            testSet = set;
                            return size;
                        }
                    }
                }
            }
            throw new IllegalStateException();
        }

        // -------- jobs

        List<Want> wantsOf(int set) {
            List<Want> all = new ArrayList<>();
            for (int i = 0; i < job.wants.size(); i++) {
                if ((set >> i & 1) != 0) {
                    all.add(job.wants.get(i));
                }
            }
            return all;
        }

        String point(Map<String, List<Integer>> relays, int[] next, String picker, List<String[]> wires) {
            List<Integer> mine = relays.computeIfAbsent(picker, k -> new ArrayList<>());
            // each relay stands three times in the list of its points
            int used = mine.size();
            if (used % 3 == 0) {
                next[0]++;
                wires.add(new String[] {picker, "s" + next[0]});
                mine.add(next[0]);
            } else {
                mine.add(mine.get(used - 1));
            }
            return mine.get(used) + "." + (used % 3 + 1);
        }

        /** null: no BOARD can be MADE. */
        List<String[]> made(int set) {
            List<Want> ws = wantsOf(set);
            List<String[]> wires = new ArrayList<>();
            int j = 1;
            for (int o = 1; o <= 3; o++) {
                if (job.breaks[o] != 0) {
                    wires.add(new String[] {"c" + job.breaks[o], "ka" + j});
                    wires.add(new String[] {"a" + job.breaks[o], "kb" + j});
                    wires.add(new String[] {"u" + j, "b" + o});
                    j++;
                }
            }
            Map<String, List<Integer>> relays = new HashMap<>();
            int[] next = {0};
            for (int v = 1; v <= ws.size(); v++) {
                Want w = ws.get(v - 1);
                if (w.field == null) {
                    wires.add(new String[] {"e", "i" + v + ".1"});
                } else {
                    int[] f = job.fields.get(w.field);
                    for (int d = 1; f[1] - d + 1 >= f[0]; d++) {
                        wires.add(new String[] {"c" + (f[1] - d + 1), "i" + v + "." + d});
                    }
                }
                if (w.over == 0) {
                    wires.add(new String[] {"e", "plus" + v});
                } else {
                    String p = point(relays, next, "x" + w.over, wires);
                    wires.add(new String[] {"e", "rc" + p});
                    wires.add(new String[] {"rn" + p, "plus" + v});
                    wires.add(new String[] {"rt" + p, "minus" + v});
                }
            }
            int bar = 0;
            for (int v = 1; v <= ws.size(); v++) {
                Want w = ws.get(v - 1);
                for (int d = w.w; d >= 1; d--) {
                    String p = point(relays, next, "t" + w.o, wires);
                    bar++;
                    wires.add(new String[] {"o" + v + "." + d, "rc" + p});
                    wires.add(new String[] {"rt" + p, "p" + bar});
                }
                wires.add(new String[] {"t" + w.o, "clear" + v});
            }
            boolean fits = ws.size() <= 4 && bar <= 12 && next[0] <= 4 && wires.size() <= 60;
            return fits ? wires : null;
        }

        /** All ways to part a set, each with the part of the least WANT ahead; the best is the first by size, then bits. */
        void partJob() {
            int all = (1 << job.wants.size()) - 1;
            boolean[] fits = new boolean[all + 1];
            for (int s = 1; s <= all; s++) {
                fits[s] = made(s) != null;
            }
            parts = new ArrayList<>();
            for (int size = 0; size <= job.wants.size(); size++) {
                List<Integer> way = new ArrayList<>();
                if (findParts(all, size, fits, way)) {
                    parts = way;
                    return;
                }
            }
            throw new IllegalStateException();
        }

        static boolean findParts(int left, int size, boolean[] fits, List<Integer> way) {
            if (left == 0 || size == 0) {
                return left == 0 && size == 0;
            }
            for (int s = 1; s <= left; s++) {
                if ((s & ~left) == 0 && (s & Integer.lowestOneBit(left)) != 0 && fits[s]) {
                    way.add(s);
                    if (findParts(left & ~s, size - 1, fits, way)) {
                        return true;
                    }
                    way.remove(way.size() - 1);
                }
            }
            return false;
        }

        int runs() {
            return parts.size();
        }

        int wants(int r) {
            return r >= 0 && r < parts.size() ? parts.get(r) : -1;
        }

        int make(int r) {
            if (r < 0 || r >= parts.size()) {
                return -1;
            }
            board = made(parts.get(r));
            return board.size();
        }

        List<List<Integer>> wantedOf(List<int[]> deck, int set) {
            List<List<Integer>> lines = new ArrayList<>();
            List<Want> ws = wantsOf(set);
            int[] since = new int[4];
            for (int k = 0; k < deck.size(); k++) {
                int order = k == deck.size() - 1 ? 3 : 0;
                for (int o = 1; o <= 3 && k < deck.size() - 1; o++) {
                    int n = job.breaks[o];
                    if (n != 0 && deck.get(k)[n - 1] % 16 != deck.get(k + 1)[n - 1] % 16) {
                        order = o;
                    }
                }
                for (int o = 1; o <= order; o++) {
                    List<Integer> line = new ArrayList<>();
                    boolean any = false;
                    for (Want w : ws) {
                        any |= w.o == o;
                        int worth = w.o == o ? worth(deck.subList(since[o], k + 1), w) : 0;
                        String digits = String.format("%06d", Math.abs(worth)).substring(6 - w.w);
                        for (char ch : digits.toCharArray()) {
                            line.add(w.o == o ? ch - '0' : 15);
                        }
                    }
                    while (line.size() < 12) {
                        line.add(15);
                    }
                    if (any) {
                        lines.add(line);
                    }
                    since[o] = k + 1;
                }
            }
            return lines;
        }

        int worth(List<int[]> cards, Want w) {
            int worth = 0;
            for (int[] c : cards) {
                int number = 1;
                if (w.field != null) {
                    number = 0;
                    int[] f = job.fields.get(w.field);
                    for (int n = f[0]; n <= f[1]; n++) {
                        number = number * 10 + (c[n - 1] % 16 == 15 ? 0 : c[n - 1] % 16);
                    }
                }
                worth += w.over != 0 && c[w.over - 1] >= 16 ? -number : number;
                worth %= 1000000;
            }
            return worth;
        }

        int wanted(int b, int r) {
            if (!box(b) || r < 0 || r >= parts.size()) {
                return -1;
            }
            wantedLines = wantedOf(boxes.get(b), parts.get(r));
            if (wantedLines.size() > 60) {
                wantedLines = wantedLines.subList(0, 60);
            }
            return wantedLines.size();
        }

        int wantedAt(int line, int n) {
            if (line < 0 || line >= wantedLines.size() || n < 1 || n > 12) {
                return THROWS;
            }
            return wantedLines.get(line).get(n - 1);
        }

        int same(int b, int r) {
            if (!box(b) || r < 0 || r >= parts.size()) {
                return -1;
            }
            Result x = run(board, boxes.get(b), 40);
            return x.end == 0 && x.lines.equals(wantedOf(boxes.get(b), parts.get(r))) ? 1 : 0;
        }

        // -------- the rest

        int needed(int b) {
            List<Integer> cols = takeTape();
            if (!box(b) || cols.isEmpty() || cols.size() > 8) {
                return -1;
            }
            for (int c : cols) {
                if (c < 1 || c > 20) {
                    return -1;
                }
            }
            for (int size = 0; size <= cols.size(); size++) {
                for (int set = 0; set < 1 << cols.size(); set++) {
                    if (Integer.bitCount(set) == size) {
                        List<int[]> deck = new ArrayList<>(boxes.get(b));
                        for (int j = cols.size() - 1; j >= 0; j--) {
                            if ((set >> j & 1) != 0) {
                                int n = cols.get(j);
                                deck.sort((p, q) -> Integer.compare(rank(p, n), rank(q, n)));
                            }
                        }
                        if (inOrder(deck, cols)) {
                            neededSet = set;
                            return size;
                        }
                    }
                }
            }
            throw new IllegalStateException();
        }

        static boolean inOrder(List<int[]> deck, List<Integer> cols) {
            for (int i = 1; i < deck.size(); i++) {
                for (int c : cols) {
                    int d = rank(deck.get(i - 1), c) - rank(deck.get(i), c);
                    if (d > 0) {
                        return false;
                    }
                    if (d < 0) {
                        break;
                    }
                }
            }
            return true;
        }

        int unseen(int b) {
            if (!box(b)) {
                return -1;
            }
            unseen = new ArrayList<>();
            List<int[]> deck = boxes.get(b);
            String whole = run(board, deck, 40).outcome();
            for (int k = 0; k < deck.size() - 1; k++) {
                List<int[]> rest = new ArrayList<>(deck);
                rest.remove(k + 1);
                if (run(board, rest, 40).outcome().equals(whole)) {
                    unseen.add(k);
                }
            }
            return unseen.size();
        }

        int unseenAt(int k) {
            return k >= 0 && k < unseen.size() ? unseen.get(k) : -1;
        }

        static List<String[]> with(List<String[]> wires, int w, int end, String hub) {
            List<String[]> rest = new ArrayList<>(wires);
            String[] moved = wires.get(w).clone();
            moved[end] = hub;
            rest.set(w, moved);
            return rest;
        }

        int moves(int b) {
            List<List<Integer>> told = lines(takeTape());
            if (told == null || !box(b)) {
                return -1;
            }
            moves = new ArrayList<>();
            List<int[]> deck = boxes.get(b).subList(0, Math.min(3, boxes.get(b).size()));
            for (int w = 0; w < board.size(); w++) {
                for (int end = 0; end < 2; end++) {
                    List<String> hubs = hubsOf(wordOf(board.get(w)[end]));
                    for (int h = 0; h < hubs.size(); h++) {
                        String hub = hubs.get(h);
                        boolean may = !hub.equals(board.get(w)[0]) && !hub.equals(board.get(w)[1])
                            && uses(board, hub) < mostWires(hub);
                        if (may && run(with(board, w, end, hub), deck, 40).lines.equals(told)) {
                            moves.add(new int[] {w, end, h});
                        }
                    }
                }
            }
            return moves.size();
        }

        int move(int k, int what) {
            return k < 0 || k >= moves.size() || k >= 100 || what < 0 || what > 2 ? -1 : moves.get(k)[what];
        }

        int keep(int k) {
            if (k < 0 || k > 7) {
                return 0;
            }
            shelf.set(k, board);
            return 1;
        }

        boolean kept(int k) {
            return k >= 0 && k < 8 && shelf.get(k) != null;
        }

        int use(int k) {
            if (!kept(k)) {
                return -1;
            }
            board = shelf.get(k);
            return board.size();
        }

        static List<String> plain(List<String[]> wires) {
            List<String> all = new ArrayList<>();
            for (String[] w : wires) {
                all.add(w[0].compareTo(w[1]) < 0 ? w[0] + "-" + w[1] : w[1] + "-" + w[0]);
            }
            return all;
        }

        static int apart(List<String[]> a, List<String[]> b) {
            List<String> all = plain(a);
            all.addAll(plain(b));
            int apart = 0;
            for (String wire : new TreeSet<>(all)) {
                apart += Math.abs(Collections.frequency(plain(a), wire) - Collections.frequency(plain(b), wire));
            }
            return apart;
        }

        int apart(int a, int b) {
            return kept(a) && kept(b) ? apart(shelf.get(a), shelf.get(b)) : -1;
        }

        int friday() {
            List<Integer> t = takeTape();
            if (t.size() % 5 != 0 || t.isEmpty() || t.size() > 30) {
                return -2;
            }
            for (int i = 0; i < t.size(); i += 5) {
                if (!kept(t.get(i))) {
                    return -2;
                }
            }
            List<List<Integer>> orders = new ArrayList<>();
            permute(t.size() / 5, new ArrayList<>(), orders);
            int best = -1;
            for (List<Integer> order : orders) {
                int minute = 0;
                boolean fine = true;
                List<String[]> ahead = new ArrayList<>();
                for (int i : order) {
                    List<String[]> mine = shelf.get(t.get(5 * i));
                    minute += 2 * apart(ahead, mine) + t.get(5 * i + 1) * 256 + t.get(5 * i + 2);
                    fine &= minute <= t.get(5 * i + 3) * 256 + t.get(5 * i + 4);
                    ahead = mine;
                }
                if (fine && (best < 0 || minute < best)) {
                    best = minute;
                    friday = order;
                }
            }
            return best;
        }

        static void permute(int n, List<Integer> begun, List<List<Integer>> all) {
            if (begun.size() == n) {
                all.add(new ArrayList<>(begun));
                return;
            }
            for (int i = 0; i < n; i++) {
                if (!begun.contains(i)) {
                    begun.add(i);
                    permute(n, begun, all);
                    begun.remove(begun.size() - 1);
                }
            }
        }

        int fridayAt(int k) {
            return k >= 0 && k < friday.size() ? friday.get(k) : -1;
        }

        int count(int what) {
            int cards = 0;
            for (List<int[]> b : boxes) {
                cards += b.size();
            }
            return what == 0 ? board.size() : what == 1 ? cards : what == 2 ? tape.size() : -1;
        }
    }

    // ---------------------------------------------------------------- a round of random calls

    static final class Round {
        final int seed;
        final Random random;
        final PlugHall hall = new PlugHall();
        final Model model = new Model();
        final Map<String, Map<Integer, Integer>> seen;
        final boolean big;
        final StringBuilder log = new StringBuilder();
        int calls;

        Round(int seed, Map<String, Map<Integer, Integer>> seen) {
            this.seed = seed;
            this.random = new Random(seed);
            this.seen = seen;
            this.big = seed % 5 == 0;
        }

        /** Each call of the hall is held against the model here; what an object answers behind its 512th is free. */
        void due(String call, int got, int want) {
            calls++;
            if (calls > MOST_CALLS) {
                return;
            }
            String name = call.replaceAll("\\(.*", "");
            seen.computeIfAbsent(name, k -> new TreeMap<>()).merge(want, 1, Integer::sum);
            log.append(call).append(" -> ").append(want).append('\n');
            if (got != want) {
                wrong++;
                String text = log.toString();
                System.out.println(text.substring(Math.max(0, text.length() - 3000)));
                System.out.println("seed " + seed + ": " + call + " answered " + got + ", the model " + want);
            }
        }

        int below(int n) {
            return random.nextInt(n);
        }

        boolean oneIn(int n) {
            return below(n) == 0;
        }

        void tape(byte[] b) {
            for (int i = 0; i < b.length || i == 0; i += 20) {
                int[] n = new int[5];
                for (int j = 0; j < 20; j++) {
                    int v = i + j < b.length ? b[i + j] & 255 : 0;
                    n[j / 4] |= v << (24 - 8 * (j % 4));
                }
                due("feed", hall.feed(n[0], n[1], n[2], n[3], n[4]), model.feed(n));
            }
            due("end(" + b.length + ")", hall.end(b.length) ? 1 : 0, model.end(b.length));
            boolean text = true;
            for (byte v : b) {
                text &= v >= 32 || v == 10;
            }
            log.append(text ? new String(b, java.nio.charset.StandardCharsets.ISO_8859_1) : Arrays.toString(b));
            log.append('\n');
        }

        int place(int n) {
            return oneIn(30) ? oneIn(2) ? -1 : n : below(n);
        }

        int someBox() {
            return oneIn(40) ? oneIn(2) ? -1 : 8 : oneIn(3) ? below(8) : 0;
        }

        String hubOf(String word) {
            List<String> all = hubsOf(word);
            int few = oneIn(4) ? all.size() : Math.min(all.size(), 4);
            return all.get(below(few));
        }

        String someHub() {
            int kind = below(20);
            if (kind < 7) {
                return hubOf(new String[] {"c", "a", "x", "e", "e", "u", "c", "c"}[below(8)]);
            }
            if (kind < 9) {
                return hubOf(new String[] {"t", "o", "z", "o"}[below(4)]);
            }
            if (kind < 12) {
                return hubOf(new String[] {"rc", "rn", "rt"}[below(3)]);
            }
            return takerHub();
        }

        String takerHub() {
            return hubOf(WORDS[8 + below(12)]);
        }

        String giverHub() {
            return oneIn(3) ? hubOf(new String[] {"t", "o", "z"}[below(3)])
                : hubOf(new String[] {"c", "a", "x", "e", "u"}[below(5)]);
        }

        String[] chunks() {
            return new String[] {"e-plus1;", "c1-i1.1;", "o1.1-p1;", "t1-clear1;", "x3-s1;", "e-rc1.1;", "rn1.1-plus1;",
                "rt1.1-minus1;", "c1-ka1;", "a1-kb1;", "u1-b1;", "z1-p2;", "e-m;", "c2-q2;", "c2-i1.6;", "c3-p3;",
                "x4-halt;", "t2-p4;", "t3-m;", "o1.6-q3;", "c2-ka2;", "a2-kb2;", "u2-b2;", "u1-p5;", "t1-s2;",
                "rt2.1-p6;", "o2.1-rc2.1;", "e-i2.1;", "e-plus2;", "e-minus2;", "o1.1-i3.1;", "t1-plus3;"};
        }

        List<String[]> someWires() {
            List<String[]> wires = new ArrayList<>();
            int n = below(big ? 40 : 14);
            for (int i = 0; i < n * 2 && wires.size() < n; i++) {
                String a;
                String b;
                int way = below(10);
                if (way < 4) {
                    String[] ends = chunks()[below(chunks().length)].replace(";", "").split("-");
                    a = ends[0];
                    b = ends[1];
                } else if (way < 8) {
                    a = giverHub();
                    b = oneIn(4) ? hubOf(new String[] {"rc", "rn", "rt"}[below(3)]) : takerHub();
                } else {
                    a = someHub();
                    b = someHub();
                }
                if (oneIn(4)) {
                    String c = a;
                    a = b;
                    b = c;
                }
                if (!a.equals(b) && Model.uses(wires, a) < mostWires(a) && Model.uses(wires, b) < mostWires(b)) {
                    wires.add(new String[] {a, b});
                }
            }
            return wires;
        }

        void add(List<String[]> wires, String a, String b) {
            boolean fits = Model.uses(wires, a) < mostWires(a) && Model.uses(wires, b) < mostWires(b);
            if (wires.size() < 60 && !a.equals(b) && fits) {
                wires.add(oneIn(6) ? new String[] {b, a} : new String[] {a, b});
            }
        }

        String column() {
            return "" + (1 + below(oneIn(4) ? 20 : 6));
        }

        /** A machine that works: breaks, sums with a sign, totals by relays, LINES and CARDS, and a few WIRES at random. */
        List<String[]> workingWires() {
            List<String[]> wires = new ArrayList<>();
            for (int o = 1; o <= 3; o++) {
                if (oneIn(2)) {
                    String n = column();
                    add(wires, "c" + n, "ka" + o);
                    add(wires, "a" + n, "kb" + o);
                    add(wires, "u" + o, "b" + (1 + below(3)));
                }
            }
            int relay = 1;
            int bar = 1;
            for (int v = 1 + below(4); v >= 1; v--) {
                for (int d = oneIn(2) ? 1 : 6; d >= 1 && d <= 6 && !oneIn(5); d += oneIn(2) ? 1 : -1) {
                    add(wires, "c" + column(), "i" + v + "." + d);
                }
                if (relay <= 4 && oneIn(2)) {
                    add(wires, "x" + column(), "s" + relay);
                    add(wires, "e", "rc" + relay + ".1");
                    add(wires, "rn" + relay + ".1", "plus" + v);
                    add(wires, "rt" + relay + ".1", "minus" + v);
                    relay++;
                } else {
                    add(wires, "e", (oneIn(3) ? "minus" : "plus") + v);
                }
                if (relay <= 4 && !oneIn(4)) {
                    String total = "t" + (1 + below(3));
                    add(wires, total, "s" + relay);
                    for (int k = 1; k <= 3; k++) {
                        String giver = oneIn(6) ? "z" + v : "o" + v + "." + (1 + below(6));
                        add(wires, giver, "rc" + relay + "." + k);
                        add(wires, "rt" + relay + "." + k, oneIn(4) ? "q" + column() : "p" + Math.min(12, bar++));
                    }
                    if (!oneIn(3)) {
                        add(wires, total, "clear" + v);
                    }
                    relay++;
                }
            }
            for (int i = below(5); i > 0; i--) {
                add(wires, (oneIn(4) ? "a" : "c") + column(), "p" + Math.min(12, bar++));
            }
            if (oneIn(2)) {
                add(wires, oneIn(2) ? "e" : oneIn(2) ? "t" + (1 + below(3)) : "x" + column(), "m");
                for (int i = below(4); i > 0; i--) {
                    add(wires, "c" + column(), "q" + column());
                }
            }
            if (oneIn(4)) {
                add(wires, "x" + (10 + below(11)), "halt");
            }
            for (int i = below(4); i > 0; i--) {
                add(wires, someHub(), someHub());
            }
            if (oneIn(3)) {
                Collections.shuffle(wires, random);
            }
            return wires;
        }

        /** The WIRES of a BOARD kept, some told again or not at all, some the other way round. */
        List<String[]> kinWires() {
            List<String[]> kin = new ArrayList<>();
            List<String[]> kept = model.shelf.get(below(8));
            for (String[] w : kept == null ? model.board : kept) {
                for (int i = oneIn(4) ? below(4) : 1; i > 0; i--) {
                    if (kin.size() < 60 && Model.uses(kin, w[0]) < mostWires(w[0]) && Model.uses(kin, w[1]) < mostWires(w[1])) {
                        kin.add(oneIn(3) ? new String[] {w[1], w[0]} : w);
                    }
                }
            }
            Collections.shuffle(kin, random);
            return kin;
        }

        String blank() {
            return oneIn(12) ? oneIn(2) ? " " : "\n" : "";
        }

        String spread(String text) {
            StringBuilder b = new StringBuilder();
            String[] parts = text.split("(?<=[-;.])|(?=[-;.])|(?<=[a-z])(?=[0-9])");
            for (String p : parts) {
                b.append(blank()).append(p);
            }
            return b.append(blank()).toString();
        }

        String spoil(String text) {
            String signs = "-;.0123456789 abcepostuxzkq\nA_";
            StringBuilder b = new StringBuilder(text);
            for (int i = 1 + below(2); i > 0; i--) {
                int at = below(b.length() + 1);
                char c = signs.charAt(below(signs.length()));
                int way = below(3);
                if (way == 0 || at == b.length()) {
                    b.insert(at, c);
                } else if (way == 1) {
                    b.deleteCharAt(at);
                } else {
                    b.setCharAt(at, c);
                }
            }
            return b.toString();
        }

        String cut(String text, int room) {
            return text.length() > room ? text.substring(0, room) : text;
        }

        void board() {
            StringBuilder b = new StringBuilder();
            for (String[] w : oneIn(4) ? kinWires() : oneIn(3) ? someWires() : workingWires()) {
                b.append(w[0]).append('-').append(w[1]).append(';');
            }
            String text = spread(b.toString());
            int way = below(12);
            if (way == 0) {
                text = spoil(text);
            } else if (way == 1) {
                text = longBoard();
            } else if (way == 2) {
                text = text + chunks()[below(chunks().length)];
            }
            tape(cut(text, 740).getBytes(java.nio.charset.StandardCharsets.ISO_8859_1));
            due("board()", hall.board(), model.board());
            due("fault()", hall.fault(), model.fault);
        }

        /** Near 700 bytes, or near 60 WIRES. */
        String longBoard() {
            StringBuilder b = new StringBuilder();
            int wires = 55 + below(8);
            List<String[]> all = new ArrayList<>();
            for (int i = 0; i < 3000 && all.size() < wires; i++) {
                String x = oneIn(2) ? giverHub() : hubOf(new String[] {"rc", "rn", "rt", "c", "a"}[below(5)]);
                String y = oneIn(3) ? hubsOf("q").get(below(20)) : someHub();
                if (!x.equals(y) && Model.uses(all, x) < mostWires(x) && Model.uses(all, y) < mostWires(y)) {
                    all.add(new String[] {x, y});
                    b.append(x).append('-').append(y).append(';');
                }
            }
            int pad = oneIn(2) ? 690 + below(20) : b.length();
            while (b.length() < pad) {
                b.insert(oneIn(2) ? 0 : b.length(), ' ');
            }
            String text = b.toString();
            if (oneIn(2)) {
                text = text + new String[] {"c1-c2;", "e;", "foo", "c1-c99;", "c77-e;", "toolong", "e-e;"}[below(7)];
            }
            return oneIn(3) ? spoil(text) : text;
        }

        String fieldName() {
            return new String[] {"a", "b", "c", "ab", "field", "total", "x"}[below(7)];
        }

        String someJob() {
            StringBuilder b = new StringBuilder();
            List<String> names = new ArrayList<>();
            int fields = below(4);
            for (int i = 0; i < fields; i++) {
                String name = "abcdefgh".substring(i, i + 1 + below(2));
                int n = 1 + below(oneIn(3) ? 20 : 5);
                int m = Math.min(20, n + below(6));
                b.append("field ").append(name).append(' ').append(n).append(' ').append(m).append(";");
                names.add(name);
            }
            for (int o = 1; o <= 3; o++) {
                if (oneIn(2)) {
                    b.append("break ").append(1 + below(4)).append(' ').append(o).append(";");
                }
            }
            int wants = below(oneIn(3) ? 9 : 5);
            for (int i = 0; i < wants; i++) {
                int w = 1 + below(oneIn(2) ? 6 : 3);
                int o = 1 + below(3);
                if (names.isEmpty() || oneIn(3)) {
                    b.append("count ").append(w).append(' ').append(o).append(";");
                } else {
                    b.append("sum ").append(names.get(below(names.size()))).append(' ').append(w).append(' ').append(o);
                    if (oneIn(2)) {
                        b.append(" over ").append(1 + below(oneIn(3) ? 20 : 3));
                    }
                    b.append(";");
                }
            }
            return b.toString();
        }

        void job() {
            String text = someJob();
            int way = below(10);
            if (way == 0) {
                text = spoil(text);
            } else if (way == 1) {
                text += "field " + fieldName() + " " + below(22) + " " + below(22) + ";";
            } else if (way == 2) {
                text += "break " + below(22) + " " + below(5) + ";sum " + fieldName() + " " + below(8) + " " + below(4);
            } else if (way == 3) {
                StringBuilder b = new StringBuilder(text);
                for (int i = below(9); i > 0; i--) {
                    b.append(oneIn(2) ? "count 1 1;" : "field z" + "abcdefghijk".charAt(i) + " 1 2;");
                }
                text = b.toString();
            } else if (way == 4) {
                StringBuilder b = new StringBuilder(text);
                int pad = 292 + below(14);
                while (b.length() < pad) {
                    b.append(oneIn(3) ? '\n' : ' ');
                }
                text = b + (oneIn(2) ? "count 1 1;" : oneIn(2) ? "counts" : "");
            }
            tape(cut(text, 740).getBytes(java.nio.charset.StandardCharsets.ISO_8859_1));
            due("job()", hall.job(), model.job());
            due("fault()", hall.fault(), model.fault);
            due("runs()", hall.runs(), model.runs());
        }

        void cards() {
            int box = someBox();
            int digits = 1 + below(10);
            int n = oneIn(10) ? 45 : 1 + below(big ? 4 : 6);
            int over = 1 + below(8);
            for (int i = 0; i < n; i++) {
                byte[] b = new byte[oneIn(60) ? 19 + below(3) : 20];
                for (int j = 0; j < b.length; j++) {
                    b[j] = (byte) ((oneIn(5) ? 15 : below(digits)) + (oneIn(over) ? 16 : 0));
                    if (oneIn(600)) {
                        b[j] = (byte) below(256);
                    }
                }
                tape(b);
                due("card(" + box + ")", hall.card(box), model.card(box));
            }
        }

        void lines(List<List<Integer>> lines) {
            List<Integer> all = new ArrayList<>();
            for (List<Integer> l : lines) {
                all.addAll(l);
            }
            if (oneIn(15)) {
                all.add(below(20));
            }
            if (oneIn(15) && !all.isEmpty()) {
                all.set(below(all.size()), below(17));
            }
            byte[] b = new byte[Math.min(740, all.size())];
            for (int i = 0; i < b.length; i++) {
                b[i] = (byte) (int) all.get(i);
            }
            tape(b);
        }

        void missing() {
            int box = someBox();
            List<String[]> wires = model.board;
            if (!wires.isEmpty() && !oneIn(4)) {
                wires = Model.without(wires, below(wires.size()));
            }
            lines(Model.box(box) ? Model.run(wires, model.boxes.get(box), 40).lines : new ArrayList<>());
            due("missing(" + box + ")", hall.missing(box), model.missing(box));
            wires();
        }

        void wires() {
            for (int k = -1; k <= model.found.size(); k++) {
                due("wire(" + k + ")", hall.wire(k), model.wire(k));
            }
        }

        void moves() {
            int box = someBox();
            List<String[]> wires = model.board;
            if (!wires.isEmpty() && !oneIn(4)) {
                int w = below(wires.size());
                int end = below(2);
                List<String> hubs = hubsOf(wordOf(wires.get(w)[end]));
                wires = Model.with(wires, w, end, hubs.get(below(Math.min(6, hubs.size()))));
            }
            List<int[]> deck = Model.box(box) ? model.boxes.get(box) : new ArrayList<>();
            lines(Model.run(wires, deck.subList(0, Math.min(3, deck.size())), 40).lines);
            due("moves(" + box + ")", hall.moves(box), model.moves(box));
            for (int i = 0; i < 12; i++) {
                int k = i < 3 ? i : below(Math.max(1, model.moves.size()) + 2) - 1;
                int what = below(5) - 1;
                due("move(" + k + ", " + what + ")", hall.move(k, what), model.move(k, what));
            }
            due("move(99, 0)", hall.move(99, 0), model.move(99, 0));
            due("move(100, 0)", hall.move(100, 0), model.move(100, 0));
        }

        interface Thrower {
            int call();
        }

        static int orThrows(Thrower t) {
            try {
                return t.call();
            } catch (NoSuchElementException e) {
                return THROWS;
            }
        }

        void run() {
            int box = someBox();
            int to = oneIn(6) ? someBox() : 1 + below(2);
            due("run(" + box + ", " + to + ")", hall.run(box, to), model.run(box, to));
            look();
        }

        void look() {
            for (int w = -1; w <= 7; w++) {
                int what = w;
                due("ran(" + what + ")", hall.ran(what), model.ran(what));
                due("wheel(" + what + ")", orThrows(() -> hall.wheel(what)), model.wheel(what));
            }
            int lines = model.latest == null ? 0 : model.latest.lines.size();
            for (int i = -1; i <= lines; i++) {
                int line = i;
                for (int k = oneIn(5) ? 0 : 1; k <= 12; k++) {
                    int n = k;
                    due("bar(" + line + ", " + n + ")", orThrows(() -> hall.bar(line, n)), model.bar(line, n));
                }
            }
        }

        void columns() {
            int box = someBox();
            due("cards(" + box + ")", hall.cards(box), model.cards(box));
            for (int i = 0; i < 40; i++) {
                int k = place(Math.max(1, Model.box(box) ? model.cards(box) : 0));
                int n = 1 + place(20);
                due("column(" + box + ", " + k + ", " + n + ")", orThrows(() -> hall.column(box, k, n)),
                    model.column(box, k, n));
            }
        }

        void wanted() {
            int box = someBox();
            int r = model.parts.isEmpty() || oneIn(20) ? below(10) - 1 : below(model.parts.size());
            due("wants(" + r + ")", hall.wants(r), model.wants(r));
            due("same(" + box + ", " + r + ")", hall.same(box, r), model.same(box, r));
            due("wanted(" + box + ", " + r + ")", hall.wanted(box, r), model.wanted(box, r));
            for (int i = -1; i <= model.wantedLines.size(); i++) {
                int line = i;
                for (int k = 0; k <= 13; k++) {
                    int n = k;
                    due("wantedAt(" + line + ", " + n + ")", orThrows(() -> hall.wantedAt(line, n)),
                        model.wantedAt(line, n));
                }
            }
            if (oneIn(2)) {
                due("make(" + r + ")", hall.make(r), model.make(r));
                due("same(" + box + ", " + r + ")", hall.same(box, r), model.same(box, r));
                for (int q = 0; q < model.parts.size(); q++) {
                    due("wants(" + q + ")", hall.wants(q), model.wants(q));
                }
            }
        }

        void needed() {
            int box = someBox();
            byte[] b = new byte[oneIn(10) ? below(10) : 1 + below(4)];
            for (int i = 0; i < b.length; i++) {
                b[i] = (byte) (oneIn(40) ? below(24) : 1 + below(oneIn(3) ? 20 : 5));
            }
            tape(b);
            due("needed(" + box + ")", hall.needed(box), model.needed(box));
            due("neededSet()", hall.neededSet(), model.neededSet);
        }

        void friday() {
            int n = 1 + below(oneIn(20) ? 7 : 4);
            byte[] b = new byte[n * 5 + (oneIn(30) ? 1 : 0)];
            for (int i = 0; i < n; i++) {
                List<Integer> kept = new ArrayList<>();
                for (int k = 0; k < 8; k++) {
                    if (model.kept(k)) {
                        kept.add(k);
                    }
                }
                b[5 * i] = (byte) (kept.isEmpty() || oneIn(50) ? below(9) : kept.get(below(kept.size())));
                b[5 * i + 1] = (byte) (oneIn(20) ? 1 : 0);
                b[5 * i + 2] = (byte) below(20);
                b[5 * i + 3] = (byte) (oneIn(3) ? 0 : 4);
                b[5 * i + 4] = (byte) below(200);
            }
            tape(b);
            due("friday()", hall.friday(), model.friday());
            for (int k = -1; k < 7; k++) {
                due("fridayAt(" + k + ")", hall.fridayAt(k), model.fridayAt(k));
            }
        }

        void shelf() {
            int k = place(8);
            int a = place(8);
            due("keep(" + k + ")", hall.keep(k) ? 1 : 0, model.keep(k));
            if (oneIn(2)) {
                board();
                due("keep(" + a + ")", hall.keep(a) ? 1 : 0, model.keep(a));
            }
            due("apart(" + k + ", " + a + ")", hall.apart(k, a), model.apart(k, a));
            due("apart(" + a + ", " + k + ")", hall.apart(a, k), model.apart(a, k));
            if (oneIn(4)) {
                due("use(" + a + ")", hall.use(a), model.use(a));
            }
        }

        void ask() {
            int box = someBox();
            switch (below(6)) {
                case 0:
                    due("idle(" + box + ")", hall.idle(box), model.idle(box));
                    wires();
                    break;
                case 1:
                    due("tests(" + box + ")", hall.tests(box), model.tests(box));
                    due("testSet()", hall.testSet(), model.testSet);
                    due("shown()", hall.shown(), model.shown);
                    break;
                case 2:
                    due("unseen(" + box + ")", hall.unseen(box), model.unseen(box));
                    for (int k = -1; k <= model.unseen.size(); k++) {
                        due("unseenAt(" + k + ")", hall.unseenAt(k), model.unseenAt(k));
                    }
                    break;
                case 3:
                    int n = 1 + place(20);
                    due("pass(" + box + ", " + n + ")", hall.pass(box, n) ? 1 : 0, model.pass(box, n));
                    columns();
                    break;
                case 4:
                    due("empty(" + box + ")", hall.empty(box), model.empty(box));
                    break;
                default:
                    look();
            }
        }

        void play() {
            cards();
            board();
            while (calls < MOST_CALLS && wrong == 0) {
                int way = below(24);
                if (way < 4) {
                    board();
                } else if (way < 7) {
                    cards();
                } else if (way < 9) {
                    run();
                } else if (way < 11) {
                    missing();
                } else if (way < 12) {
                    moves();
                } else if (way < 14) {
                    job();
                } else if (way < 16) {
                    wanted();
                } else if (way < 17) {
                    needed();
                } else if (way < 18) {
                    friday();
                } else if (way < 20) {
                    shelf();
                } else {
                    ask();
                }
                for (int what = -1; what <= 3; what++) {
                    due("count(" + what + ")", hall.count(what), model.count(what));
                }
            }
        }
    }
}
