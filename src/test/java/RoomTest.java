import java.lang.management.ManagementFactory;
import java.lang.reflect.Array;
import java.lang.reflect.Field;
import java.lang.reflect.Modifier;
import java.util.Collections;
import java.util.IdentityHashMap;
import java.util.NoSuchElementException;
import java.util.Random;
import java.util.Set;

/** What an object takes of the room, that calls take none, and that no argument makes the machine throw. */
public final class RoomTest {
    private static final int MOST_ELEMENTS = 20000;
    private static final int MOST_OBJECTS = 150;
    private static final int[] ODD = {Integer.MIN_VALUE, Integer.MIN_VALUE + 1, -1000, -2, -1, 0, 1, 2, 3, 7, 8, 12, 13, 20,
        21, 39, 40, 59, 60, 61, 99, 100, 101, 1000, Integer.MAX_VALUE - 1, Integer.MAX_VALUE};
    private static int wrong = 0;
    private static int objects = 0;
    private static int elements = 0;

    private static void check(boolean fine, String what) {
        if (!fine) {
            wrong++;
            System.out.println(what);
        }
    }

    private static void measure(Object o, Set<Object> seen) throws IllegalAccessException {
        if (o == null || !seen.add(o)) {
            return;
        }
        objects++;
        if (o.getClass().isArray()) {
            elements += Array.getLength(o);
            if (!o.getClass().getComponentType().isPrimitive()) {
                for (Object one : (Object[]) o) {
                    measure(one, seen);
                }
            }
            return;
        }
        for (Field f : o.getClass().getDeclaredFields()) {
            if (!Modifier.isStatic(f.getModifiers())) {
                elements++;
                f.setAccessible(true);
                if (!f.getType().isPrimitive()) {
                    measure(f.get(o), seen);
                }
            }
        }
    }

    private static int call(PlugHall h, int which, int a, int b, int c) {
        try {
            return plainCall(h, which, a, b, c);
        } catch (NoSuchElementException e) {
            check(which == 4 || which == 10 || which == 11 || which == 24, "call " + which + " throws");
            return 0;
        }
    }

    private static int plainCall(PlugHall h, int which, int a, int b, int c) {
        switch (which) {
            case 0: return h.feed(a, b, c, a, b);
            case 1: return h.end(a) ? 1 : 0;
            case 2: return h.card(a);
            case 3: return h.cards(a);
            case 4: return h.column(a, b, c);
            case 5: return h.empty(a);
            case 6: return h.board();
            case 7: return h.fault();
            case 8: return h.run(a, b);
            case 9: return h.ran(a);
            case 10: return h.bar(a, b);
            case 11: return h.wheel(a);
            case 12: return h.pass(a, b) ? 1 : 0;
            case 13: return h.idle(a);
            case 14: return h.missing(a);
            case 15: return h.wire(a);
            case 16: return h.tests(a);
            case 17: return h.testSet();
            case 18: return h.shown();
            case 19: return h.job();
            case 20: return h.runs();
            case 21: return h.wants(a);
            case 22: return h.make(a);
            case 23: return h.wanted(a, b);
            case 24: return h.wantedAt(a, b);
            case 25: return h.same(a, b);
            case 26: return h.needed(a);
            case 27: return h.neededSet();
            case 28: return h.unseen(a);
            case 29: return h.unseenAt(a);
            case 30: return h.moves(a);
            case 31: return h.move(a, b);
            case 32: return h.keep(a) ? 1 : 0;
            case 33: return h.use(a);
            case 34: return h.apart(a, b);
            case 35: return h.friday();
            case 36: return h.fridayAt(a);
            default: return h.count(a);
        }
    }

    private static void feed(PlugHall h, byte[] bytes) {
        for (int i = 0; i < bytes.length; i += 20) {
            int[] n = new int[5];
            for (int j = 0; j < 20 && i + j < bytes.length; j++) {
                n[j / 4] |= (bytes[i + j] & 255) << 24 - 8 * (j % 4);
            }
            h.feed(n[0], n[1], n[2], n[3], n[4]);
        }
        h.end(bytes.length);
    }

    private static void fullHall(PlugHall h) {
        Random random = new Random(3);
        for (int k = 0; k < 40; k++) {
            byte[] card = new byte[20];
            for (int i = 0; i < 20; i++) {
                card[i] = (byte) (random.nextInt(10) + (random.nextInt(3) == 0 ? 16 : 0));
            }
            feed(h, card);
            h.card(0);
        }
        feed(h, ("field a 1 6;field b 2 5;break 1 1;break 2 2;break 3 3;sum a 3 1;sum b 3 2;sum a 2 1 over 1;"
            + "sum a 2 2 over 2;count 1 1;count 2 2;count 3 3;count 1 3;").getBytes());
        h.job();
        h.make(0);
        for (int k = 0; k < 8; k++) {
            h.keep(k);
        }
    }

    private static void callsTakeNoRoom() {
        com.sun.management.ThreadMXBean threads =
            (com.sun.management.ThreadMXBean) ManagementFactory.getThreadMXBean();
        PlugHall h = new PlugHall();
        fullHall(h);
        byte[] told = new byte[30];
        for (int i = 0; i < 6; i++) {
            told[5 * i] = (byte) i;
            told[5 * i + 3] = 100;
        }
        long id = Thread.currentThread().getId();
        long before = 0;
        for (int round = 0; round < 2; round++) {
            before = threads.getThreadAllocatedBytes(id);
            for (int k = 0; k < 6; k++) {
                h.feed(0x65, 0x2d70313b, 0x20202020, 0x20202020, 0x20202020);
                h.end(0);
            }
            for (int which = 5; which < 38; which++) {
                if (which != 10 && which != 11 && which != 24) {
                    plainCall(h, which, which == 5 ? 3 : 0, 1, 1);
                }
            }
            h.feed(0x00000064, 0x64010000, 0x64640200, 0x00646403, 0);
            h.end(15);
            h.friday();
        }
        long used = threads.getThreadAllocatedBytes(id) - before;
        check(used < 2000, "a round of calls takes " + used + " bytes");
    }

    private static void oddArguments() {
        for (int seed = 0; seed < 60; seed++) {
            Random random = new Random(seed);
            PlugHall h = new PlugHall();
            if (seed % 2 == 0) {
                fullHall(h);
            }
            for (int i = 0; i < 400; i++) {
                int a = ODD[random.nextInt(ODD.length)];
                int b = ODD[random.nextInt(ODD.length)];
                int c = ODD[random.nextInt(ODD.length)];
                if (random.nextInt(3) == 0) {
                    byte[] bytes = new byte[random.nextInt(700)];
                    random.nextBytes(bytes);
                    feed(h, bytes);
                }
                call(h, random.nextInt(38), random.nextInt(2) == 0 ? a : random.nextInt(8), b, c);
            }
            for (int which = 1; which < 38; which++) {
                for (int a : ODD) {
                    for (int b : ODD) {
                        if (which != 8 && which != 13 && which != 16 && which != 28 && which != 30) {
                            call(h, which, a, b, 1);
                        }
                    }
                }
            }
        }
    }

    public static void main(String[] args) throws IllegalAccessException {
        measure(new PlugHall(), Collections.newSetFromMap(new IdentityHashMap<>()));
        System.out.println("an object: " + objects + " objects and arrays, " + elements + " fields and elements");
        check(objects <= MOST_OBJECTS, "too many objects: " + objects);
        check(elements <= MOST_ELEMENTS, "too many elements: " + elements);
        callsTakeNoRoom();
        oddArguments();
        System.out.println(wrong == 0 ? "the room is kept" : wrong + " things are not as told");
        if (wrong != 0) {
            System.exit(1);
        }
    }
}
