import java.util.ArrayList;
import java.util.List;
import java.util.Map;
import java.util.Random;
import java.util.TreeMap;

/**
 * All promises: long runs of drawn calls are answered as by the model, the whole state that questions can tell
 * is that of the model and keeps to what the document says of every state, and a refused call changes nothing.
 * No kernel is used for more than 512 calls.
 */
public final class ModelTest {
    private static final int RUNS = 8000;
    /** Above this there would be no room for the calls that look at the state. */
    private static final int MOST_WITH_PICTURE = 360;

    private final Random random;
    private final int boldness;
    private final Map<String, Integer> seen;
    private final CapTreeKernel kernel = new CapTreeKernel();
    private final Model model = new Model();
    private final List<Call> calls = new ArrayList<>();

    private ModelTest(long seed, Map<String, Integer> seen) {
        random = new Random(seed);
        boldness = random.nextInt(4);
        this.seen = seen;
    }

    public static void main(String[] args) {
        Watchdog.start();
        Map<String, Integer> seen = new TreeMap<>();
        for (int run = 0; run < RUNS; run++) {
            String fault = new ModelTest(run, seen).findFault();
            if (fault != null) {
                System.out.println("run " + run + ": " + fault);
                System.exit(1);
            }
        }
        if (!seenAll(seen)) {
            System.exit(1);
        }
        System.out.println(RUNS + " runs are as those of the model; answers seen: " + seen);
    }

    /** The draw must not miss a reason of refusal, or the comparison tells nothing about it. */
    private static boolean seenAll(Map<String, Integer> seen) {
        String[] all = {
            "retype 0 1 3 4 5 8", "copy 0 1 2 3 4 8", "move 0 1 3 8", "delete 0 1 8", "revoke 0 1 8",
            "configure 0 1 2 4 8", "run 0 1 8", "send 0 1 2 6 8 10", "receive 0 1 2 6 8 10", "signal 0 1 2 8",
            "listen 0 1 2 6 8 10", "map 0 1 4 7 8", "unmap 0 1 7 8", "bind 0 1 4 8", "interrupt 0 1"
        };
        boolean good = true;
        for (String row : all) {
            String[] parts = row.split(" ");
            for (int i = 1; i < parts.length; i++) {
                if (!seen.containsKey(parts[0] + " " + parts[i])) {
                    System.out.println("no drawn call of " + parts[0] + " was answered " + parts[i]);
                    good = false;
                }
            }
        }
        return good;
    }

    /** What is not as due in this run, null when all is. */
    private String findFault() {
        int length = 1 + random.nextInt(Picture.MOST_CALLS);
        if (chance(75)) {
            String fault = makeAll(beginning());
            if (fault != null) {
                return fault;
            }
        }
        while (calls.size() < length && !(isStuck() && chance(10))) {
            String fault = make(new Call(drawCall()));
            if (fault != null) {
                return fault;
            }
        }
        if (calls.size() > MOST_WITH_PICTURE) {
            return null;
        }
        Picture end = Picture.afterByQuestions(calls);
        List<String> broken = Invariants.brokenIn(end);
        if (!broken.isEmpty()) {
            return "after " + calls.size() + " calls this does not hold: " + broken;
        }
        String difference = end.differenceFrom(Picture.of(model));
        return difference == null ? null : "after " + calls.size() + " calls " + difference + " by the model";
    }

    private String makeAll(List<String> texts) {
        for (String text : texts) {
            String fault = make(new Call(text));
            if (fault != null) {
                return fault;
            }
        }
        return null;
    }

    private String make(Call call) {
        int got = call.on(kernel);
        int due = call.on(model);
        calls.add(call);
        seen.merge(call.name + " " + (call.name.equals("tick") ? 0 : got), 1, Integer::sum);
        if (got != due) {
            return "call " + calls.size() + ", " + call.text + " answered " + got + ", the model " + due;
        }
        if (call.isRefusedBy(got) && calls.size() <= MOST_WITH_PICTURE && chance(1)) {
            Picture before = Picture.after(calls.subList(0, calls.size() - 1));
            String difference = Picture.after(calls).differenceFrom(before);
            return difference == null ? null : "refused " + call.text + ", but then " + difference + " without it";
        }
        return null;
    }

    private boolean isStuck() {
        return model.current() == -1 || model.thread(model.current(), 6) == -1;
    }

    private boolean chance(int percent) {
        return random.nextInt(100) < percent;
    }

    private int wild() {
        int[] edges = {-2, -1, 4, 7, 8, 15, 16, 17, 255, 256, 271, 272, Integer.MIN_VALUE, Integer.MAX_VALUE};
        return chance(50) ? edges[random.nextInt(edges.length)] : random.nextInt(300) - 10;
    }

    /** An address at which the current thread has a capability of the kind, if the draw and the state allow it. */
    private int address(int kind) {
        int table = model.thread(Math.max(0, model.current()), 6);
        if (chance(3) || table == -1) {
            return wild();
        }
        int found = -1;
        int count = 0;
        for (int a = 0; a <= 271; a++) {
            int k = kindAt(table, a);
            boolean fits = kind == k || kind == 8 && k >= 0 || kind == 9 && k >= 6 || kind == 10 && k == -1;
            if (fits && random.nextInt(++count) == 0) {
                found = a;
            }
        }
        return found;
    }

    /** -1 for an empty slot, -2 for no slot. */
    private int kindAt(int table, int a) {
        if (a < 16) {
            return model.slot(table, a, 0);
        }
        if (model.slot(table, a / 16 - 1, 0) != 1) {
            return -2;
        }
        return model.slot(model.slot(table, a / 16 - 1, 1), a % 16, 0);
    }

    private int small(int bound) {
        return chance(4) ? wild() : random.nextInt(bound);
    }

    /** Deletes of the first capabilities end most runs early, so that only bold runs have many. */
    private int victim() {
        int a = address(8);
        return a < 4 && !chance(boldness) ? address(8) : a;
    }

    /** Threads that share gates and bells, so that there is more to be drawn. */
    private List<String> beginning() {
        List<String> texts = new ArrayList<>();
        int[][] made = {{2, 3, 4}, {2, 4, 5}, {2, 2, 6}, {2, 2, 7}, {3, 1, 8}, {2, 5, 9}, {3, 6, 10}, {3, 7, 11}};
        for (int[] m : made) {
            texts.add(text("retype", m[0], m[1], 0, m[2]));
        }
        for (int a = 4; a < 12; a++) {
            if (chance(60)) {
                texts.add(text("copy", a, 144 + a, 7, a));
            }
        }
        for (int t = 6; t <= 7; t++) {
            texts.add(text("configure", t, chance(50) ? 0 : 8, 9, random.nextInt(4)));
            texts.add(text("run", t, true));
        }
        return texts;
    }

    private static String text(String name, Object... args) {
        StringBuilder all = new StringBuilder();
        for (Object arg : args) {
            all.append(all.length() == 0 ? "" : ", ").append(arg);
        }
        return name + "(" + all + ")";
    }

    private String drawCall() {
        int draw = random.nextInt(100);
        if (draw < 52) {
            return drawCapabilityCall(draw);
        }
        return draw < 90 ? drawThreadCall(draw) : drawMapCall();
    }

    private String drawCapabilityCall(int draw) {
        if (draw < 22) {
            int[] kinds = {0, 1, 1, 2, 2, 2, 3, 3, 4, 4, 5, 6, 6, 7};
            int kind = chance(4) ? wild() : kinds[random.nextInt(kinds.length)];
            int bits = chance(20) ? wild() : 1 + random.nextInt(6);
            return text("retype", address(0), kind, bits, address(10));
        } else if (draw < 34) {
            return text("copy", address(8), address(10), chance(50) ? 7 : small(8), small(256));
        } else if (draw < 41) {
            return text("move", chance(30) ? address(8) : victim(), address(10));
        } else if (draw < 49) {
            return text("delete", victim());
        }
        return text("revoke", victim());
    }

    private String drawThreadCall(int draw) {
        boolean flag = chance(60);
        if (draw < 59) {
            int table = chance(8) ? -1 : address(1);
            int space = chance(30) ? -1 : address(5);
            return text("configure", address(2), table, space, small(4));
        } else if (draw < 65) {
            return text("run", address(2), chance(85));
        } else if (draw < 71) {
            return text("send", address(3), random.nextInt(), chance(20) ? -1 : address(8), flag);
        } else if (draw < 77) {
            return text("receive", address(3), chance(20) ? -1 : address(10), flag);
        } else if (draw < 80) {
            return text("signal", address(4));
        } else if (draw < 83) {
            return text("listen", address(4), flag);
        } else if (draw < 85) {
            return text("bind", small(4), chance(10) ? -1 : address(4));
        } else if (draw < 87) {
            return text("interrupt", small(4));
        }
        return text("tick");
    }

    private String drawMapCall() {
        if (chance(70)) {
            return text("map", address(9), address(5), small(16));
        }
        return text("unmap", address(9));
    }
}
