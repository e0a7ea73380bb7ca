import java.util.Map;
import java.util.Random;
import java.util.TreeMap;

/**
 * All promises: long runs of drawn calls are answered as by the model, and the whole state that questions
 * can tell is that of the model; a refused call changes nothing of it.
 */
public final class ModelTest {
    private static final int RUNS = 1500;
    private static final int CALLS = 512;
    private static final int STATE = 128 * 8 + 16 * 8 + 16 * 16 + 1;

    private final Random random;
    private final int boldness;
    private CapTreeKernel kernel;
    private Model model;
    private final Map<String, Integer> seen;
    private String call;
    private int got;
    private int due;

    private ModelTest(long seed, Map<String, Integer> seen) {
        random = new Random(seed);
        boldness = random.nextInt(4);
        this.seen = seen;
    }

    public static void main(String[] args) {
        Map<String, Integer> seen = new TreeMap<>();
        for (int run = 0; run < RUNS; run++) {
            if (!new ModelTest(run, seen).isAsDue(run, run % 25 == 0 ? 1 : 64)) {
                System.exit(1);
            }
        }
        if (!seenAll(seen)) {
            System.exit(1);
        }
        System.out.println(RUNS + " runs are as those of the model; answers seen: " + seen);
    }

    /** The draw must not miss a reason of refusal, or the comparison tells nothing about it. */
    private static boolean seenAll(Map<String, Integer> seen) {
        String[] all = {
            "retype 0 1 3 4 5 8", "copy 0 1 2 3 4 8", "move 0 1 3 8", "delete 0 1 8", "revoke 0 1 8",
            "configure 0 1 2 4 8", "run 0 1 8", "send 0 1 2 6 8 10", "receive 0 1 2 6 8 10", "signal 0 1 2 8",
            "listen 0 1 2 6 8 10", "map 0 1 4 7 8", "unmap 0 1 7 8", "bind 0 1 4 8", "interrupt 0 1"
        };
        boolean good = true;
        for (String row : all) {
            String[] parts = row.split(" ");
            for (int i = 1; i < parts.length; i++) {
                if (!seen.containsKey(parts[0] + " " + parts[i])) {
                    System.out.println("no drawn call of " + parts[0] + " was answered " + parts[i]);
                    good = false;
                }
            }
        }
        return good;
    }

    private boolean isAsDue(int run, int every) {
        int[] before = null;
        for (int n = 0; n < CALLS; n++) {
            if (n == 0 || isStuck() && chance(10)) {
                begin();
                before = kernelState();
            }
            makeCall();
            String name = call.substring(0, call.indexOf('('));
            seen.merge(name + " " + (name.equals("tick") ? 0 : got), 1, Integer::sum);
            if (got != due) {
                String where = "run " + run + ", call " + n + ": ";
                System.out.println(where + call + " answered " + got + ", the model " + due);
                return false;
            }
            if (n % every != 0 && n != CALLS - 1) {
                continue;
            }
            int[] after = kernelState();
            if (!same(after, modelState(), "run " + run + ", after call " + n + ", " + call)) {
                return false;
            }
            boolean refused = got >= 1 && got <= 8 && !name.equals("interrupt") && !name.equals("tick");
            if (every == 1 && refused && !same(before, after, "refused " + call)) {
                return false;
            }
            before = after;
        }
        return true;
    }

    private boolean isStuck() {
        return model.current() == -1 || model.thread(model.current(), 6) == -1;
    }

    private static boolean same(int[] a, int[] b, String where) {
        for (int i = 0; i < STATE; i++) {
            if (a[i] != b[i]) {
                System.out.println(where + ": question " + i + " differs, " + a[i] + " and " + b[i]);
                return false;
            }
        }
        return true;
    }

    private int[] kernelState() {
        int[] s = new int[STATE];
        int n = 0;
        for (int place = 0; place < 128; place++) {
            for (int what = 0; what < 8; what++) {
                s[n++] = kernel.slot(place / 16 * 16, place % 16, what);
            }
        }
        for (int t = 0; t < 128; t += 8) {
            for (int what = 0; what < 8; what++) {
                s[n++] = kernel.thread(t, what);
            }
            for (int at = 0; at < 16; at++) {
                s[n++] = kernel.page(t, at);
            }
        }
        s[n] = kernel.current();
        return s;
    }

    private int[] modelState() {
        int[] s = new int[STATE];
        int n = 0;
        for (int place = 0; place < 128; place++) {
            for (int what = 0; what < 8; what++) {
                s[n++] = model.slot(place / 16 * 16, place % 16, what);
            }
        }
        for (int t = 0; t < 128; t += 8) {
            for (int what = 0; what < 8; what++) {
                s[n++] = model.thread(t, what);
            }
            for (int at = 0; at < 16; at++) {
                s[n++] = model.page(t, at);
            }
        }
        s[n] = model.current();
        return s;
    }

    private boolean chance(int percent) {
        return random.nextInt(100) < percent;
    }

    private int wild() {
        int[] edges = {-2, -1, 4, 7, 8, 15, 16, 17, 255, 256, 271, 272, Integer.MIN_VALUE, Integer.MAX_VALUE};
        return chance(50) ? edges[random.nextInt(edges.length)] : random.nextInt(300) - 10;
    }

    /** An address at which the current thread has a capability of the kind, if the draw and the state allow it. */
    private int address(int kind) {
        int table = model.thread(Math.max(0, model.current()), 6);
        if (chance(3) || table == -1) {
            return wild();
        }
        int found = -1;
        int count = 0;
        for (int a = 0; a <= 271; a++) {
            int k = kindAt(table, a);
            boolean fits = kind == k || kind == 8 && k >= 0 || kind == 9 && k >= 6 || kind == 10 && k == -1;
            if (fits && random.nextInt(++count) == 0) {
                found = a;
            }
        }
        return found;
    }

    /** -1 for an empty slot, -2 for no slot. */
    private int kindAt(int table, int a) {
        if (a < 16) {
            return model.slot(table, a, 0);
        }
        if (model.slot(table, a / 16 - 1, 0) != 1) {
            return -2;
        }
        return model.slot(model.slot(table, a / 16 - 1, 1), a % 16, 0);
    }

    private int small(int bound) {
        return chance(4) ? wild() : random.nextInt(bound);
    }

    /** Deletes of the first capabilities end most runs early, so that only bold runs have many. */
    private int victim() {
        int a = address(8);
        return a < 4 && !chance(boldness) ? address(8) : a;
    }

    private void made(String text, int answer, int modelAnswer) {
        call = text;
        got = answer;
        due = modelAnswer;
    }

    /** A new kernel; three times out of four with threads that share gates and bells. */
    private void begin() {
        kernel = new CapTreeKernel();
        model = new Model();
        if (chance(25)) {
            return;
        }
        int[][] made = {{2, 3, 4}, {2, 4, 5}, {2, 2, 6}, {2, 2, 7}, {3, 1, 8}, {2, 5, 9}, {3, 6, 10}, {3, 7, 11}};
        for (int[] m : made) {
            kernel.retype(m[0], m[1], 0, m[2]);
            model.retype(m[0], m[1], 0, m[2]);
        }
        for (int a = 4; a < 12; a++) {
            if (chance(60)) {
                kernel.copy(a, 144 + a, 7, a);
                model.copy(a, 144 + a, 7, a);
            }
        }
        for (int t = 6; t <= 7; t++) {
            int table = chance(50) ? 0 : 8;
            int priority = random.nextInt(4);
            kernel.configure(t, table, 9, priority);
            model.configure(t, table, 9, priority);
            kernel.run(t, true);
            model.run(t, true);
        }
    }

    private void makeCall() {
        int draw = random.nextInt(100);
        if (draw < 52) {
            makeCapabilityCall(draw);
        } else if (draw < 90) {
            makeThreadCall(draw);
        } else {
            makeMapCall();
        }
    }

    private void makeCapabilityCall(int draw) {
        if (draw < 22) {
            int[] kinds = {0, 1, 1, 2, 2, 2, 3, 3, 4, 4, 5, 6, 6, 7};
            int u = address(0);
            int kind = chance(4) ? wild() : kinds[random.nextInt(kinds.length)];
            int bits = chance(20) ? wild() : 1 + random.nextInt(6);
            int dest = address(10);
            made("retype(" + u + ", " + kind + ", " + bits + ", " + dest + ")",
                kernel.retype(u, kind, bits, dest), model.retype(u, kind, bits, dest));
        } else if (draw < 34) {
            int src = address(8);
            int dest = address(10);
            int rights = chance(50) ? 7 : small(8);
            int badge = small(256);
            made("copy(" + src + ", " + dest + ", " + rights + ", " + badge + ")",
                kernel.copy(src, dest, rights, badge), model.copy(src, dest, rights, badge));
        } else if (draw < 41) {
            int src = chance(30) ? address(8) : victim();
            int dest = address(10);
            made("move(" + src + ", " + dest + ")", kernel.move(src, dest), model.move(src, dest));
        } else if (draw < 49) {
            int a = victim();
            made("delete(" + a + ")", kernel.delete(a), model.delete(a));
        } else {
            int a = victim();
            made("revoke(" + a + ")", kernel.revoke(a), model.revoke(a));
        }
    }

    private void makeThreadCall(int draw) {
        boolean flag = chance(60);
        if (draw < 59) {
            int t = address(2);
            int table = chance(8) ? -1 : address(1);
            int space = chance(30) ? -1 : address(5);
            int priority = small(4);
            made("configure(" + t + ", " + table + ", " + space + ", " + priority + ")",
                kernel.configure(t, table, space, priority), model.configure(t, table, space, priority));
        } else if (draw < 65) {
            int t = address(2);
            boolean on = chance(85);
            made("run(" + t + ", " + on + ")", kernel.run(t, on), model.run(t, on));
        } else if (draw < 71) {
            int g = address(3);
            int word = random.nextInt();
            int c = chance(20) ? -1 : address(8);
            made("send(" + g + ", " + word + ", " + c + ", " + flag + ")",
                kernel.send(g, word, c, flag), model.send(g, word, c, flag));
        } else if (draw < 77) {
            int g = address(3);
            int d = chance(20) ? -1 : address(10);
            made("receive(" + g + ", " + d + ", " + flag + ")", kernel.receive(g, d, flag), model.receive(g, d, flag));
        } else if (draw < 80) {
            int b = address(4);
            made("signal(" + b + ")", kernel.signal(b), model.signal(b));
        } else if (draw < 83) {
            int b = address(4);
            made("listen(" + b + ", " + flag + ")", kernel.listen(b, flag), model.listen(b, flag));
        } else if (draw < 85) {
            int line = small(4);
            int b = chance(10) ? -1 : address(4);
            made("bind(" + line + ", " + b + ")", kernel.bind(line, b), model.bind(line, b));
        } else if (draw < 87) {
            int line = small(4);
            made("interrupt(" + line + ")", kernel.interrupt(line), model.interrupt(line));
        } else {
            made("tick()", kernel.tick(), model.tick());
        }
    }

    private void makeMapCall() {
        int c = address(9);
        if (chance(70)) {
            int s = address(5);
            int at = small(16);
            made("map(" + c + ", " + s + ", " + at + ")", kernel.map(c, s, at), model.map(c, s, at));
        } else {
            made("unmap(" + c + ")", kernel.unmap(c), model.unmap(c));
        }
    }
}
