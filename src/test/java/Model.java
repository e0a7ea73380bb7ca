import java.util.ArrayList;
import java.util.List;

/**
 * The document written a second time, for comparison: with lists of objects and of children where the
 * program has arrays by unit, with removing that calls itself, and with removing in another order.
 */
final class Model {
    static final class Obj {
        int kind;
        int at;
        int size;
        boolean there = true;
        final List<Cap> caps = new ArrayList<>();
        int behindLatest;
        Cap[] slots;
        Obj table;
        Obj space;
        Obj waitsAt;
        int priority;
        String state = "STOPPED";
        int slice;
        int word;
        int badge;
        int mark;
        int[] message;
        final List<Obj> queue = new ArrayList<>();
        Obj[] leaves;
        Cap[] frames;
    }

    static final class Cap {
        Obj obj;
        int rights;
        int badge;
        Cap parent;
        final List<Cap> children = new ArrayList<>();
        Obj table;
        int slot;
    }

    private final List<Obj> objects = new ArrayList<>();
    private final List<List<Obj>> ready = new ArrayList<>();
    private final Obj[] bound = new Obj[4];

    Model() {
        for (int p = 0; p < 4; p++) {
            ready.add(new ArrayList<>());
        }
        Obj table = make(1, 0, 16);
        Obj thread = make(2, 16, 8);
        give(null, table, 7, 0, table, 0);
        give(null, thread, 7, 0, table, 1);
        give(null, make(0, 32, 32), 7, 0, table, 2);
        give(null, make(0, 64, 64), 7, 0, table, 3);
        thread.table = table;
        thread.priority = 3;
        makeReady(thread);
    }

    private Obj make(int kind, int at, int size) {
        Obj o = new Obj();
        o.kind = kind;
        o.at = at;
        o.size = size;
        if (kind == 1) {
            o.slots = new Cap[16];
        }
        if (kind == 5) {
            o.leaves = new Obj[4];
        }
        if (kind == 6) {
            o.frames = new Cap[4];
        }
        objects.add(o);
        return o;
    }

    private Cap give(Cap parent, Obj obj, int rights, int badge, Obj table, int slot) {
        Cap c = new Cap();
        c.obj = obj;
        c.rights = rights;
        c.badge = badge;
        c.parent = parent;
        if (parent != null) {
            parent.children.add(c);
        }
        obj.caps.add(c);
        c.table = table;
        c.slot = slot;
        table.slots[slot] = c;
        return c;
    }

    private Obj running() {
        for (int p = 3; p >= 0; p--) {
            if (!ready.get(p).isEmpty()) {
                return ready.get(p).get(0);
            }
        }
        return null;
    }

    /** A table and a slot, or null for no slot. */
    private static Object[] seek(Obj thread, int a) {
        if (thread.table == null) {
            return null;
        }
        if (0 <= a && a <= 15) {
            return new Object[] {thread.table, a};
        }
        if (16 <= a && a <= 271) {
            Cap via = thread.table.slots[a / 16 - 1];
            if (via != null && via.obj.kind == 1) {
                return new Object[] {via.obj, a % 16};
            }
        }
        return null;
    }

    private static Cap capAt(Obj thread, int a, int... kinds) {
        Object[] where = seek(thread, a);
        if (where == null) {
            return null;
        }
        Cap c = ((Obj) where[0]).slots[(int) where[1]];
        if (c == null || kinds.length == 0) {
            return c;
        }
        for (int k : kinds) {
            if (c.obj.kind == k) {
                return c;
            }
        }
        return null;
    }

    private static Object[] emptyAt(Obj thread, int a) {
        Object[] where = seek(thread, a);
        if (where == null || ((Obj) where[0]).slots[(int) where[1]] != null) {
            return null;
        }
        return where;
    }

    private void quit(Obj thread) {
        for (List<Obj> line : ready) {
            line.remove(thread);
        }
        if (thread.waitsAt != null) {
            thread.waitsAt.queue.remove(thread);
            thread.waitsAt = null;
        }
    }

    private void makeReady(Obj thread) {
        quit(thread);
        thread.state = "READY";
        thread.slice = 3;
        ready.get(thread.priority).add(thread);
    }

    private void makeWait(Obj thread, Obj where, String state, int... message) {
        quit(thread);
        thread.state = state;
        thread.message = message;
        thread.waitsAt = where;
        where.queue.add(thread);
    }

    private static int freePoint(Cap u) {
        return u.children.isEmpty() ? u.obj.at : u.obj.behindLatest;
    }

    int retype(int u, int kind, int bits, int dest) {
        Obj me = running();
        if (me == null) {
            return 8;
        }
        Cap c = capAt(me, u, 0);
        if (c == null) {
            return 1;
        }
        if (kind < 0 || kind > 7 || kind == 0 && (bits < 1 || bits > 6)) {
            return 4;
        }
        Object[] to = emptyAt(me, dest);
        if (to == null) {
            return 3;
        }
        int size = kind == 0 ? (int) Math.pow(2, bits) : new int[] {0, 16, 8, 2, 2, 4, 4, 8}[kind];
        int at = freePoint(c);
        while (at % size != 0) {
            at++;
        }
        if (at + size > c.obj.at + c.obj.size) {
            return 5;
        }
        give(c, make(kind, at, size), 7, 0, (Obj) to[0], (int) to[1]);
        c.obj.behindLatest = at + size;
        return 0;
    }

    int copy(int src, int dest, int rights, int badge) {
        Obj me = running();
        if (me == null) {
            return 8;
        }
        Cap c = capAt(me, src);
        if (c == null) {
            return 1;
        }
        if (c.obj.kind == 0) {
            return 2;
        }
        if (rights < 0 || rights > 7 || badge < 0 || badge > 255) {
            return 4;
        }
        Object[] to = emptyAt(me, dest);
        if (to == null) {
            return 3;
        }
        int newBadge = c.badge;
        if (newBadge == 0 && (c.obj.kind == 3 || c.obj.kind == 4)) {
            newBadge = badge;
        }
        give(c, c.obj, c.rights & rights, newBadge, (Obj) to[0], (int) to[1]);
        return 0;
    }

    int move(int src, int dest) {
        Obj me = running();
        if (me == null) {
            return 8;
        }
        Cap c = capAt(me, src);
        if (c == null) {
            return 1;
        }
        Object[] to = emptyAt(me, dest);
        if (to == null) {
            return 3;
        }
        c.table.slots[c.slot] = null;
        c.table = (Obj) to[0];
        c.slot = (int) to[1];
        c.table.slots[c.slot] = c;
        return 0;
    }

    int delete(int a) {
        Obj me = running();
        if (me == null) {
            return 8;
        }
        Cap c = capAt(me, a);
        if (c == null) {
            return 1;
        }
        remove(c);
        return 0;
    }

    int revoke(int a) {
        Obj me = running();
        if (me == null) {
            return 8;
        }
        Cap c = capAt(me, a);
        if (c == null) {
            return 1;
        }
        List<Cap> all = new ArrayList<>();
        gather(c, all);
        for (int i = all.size() - 1; i >= 0; i--) {
            remove(all.get(i));
        }
        return 0;
    }

    private static void gather(Cap c, List<Cap> all) {
        for (Cap child : c.children) {
            all.add(child);
            gather(child, all);
        }
    }

    private void remove(Cap c) {
        if (c.table == null) {
            return;
        }
        c.table.slots[c.slot] = null;
        c.table = null;
        for (Cap child : c.children) {
            child.parent = c.parent;
            if (c.parent != null) {
                c.parent.children.add(child);
            }
        }
        c.children.clear();
        if (c.parent != null) {
            c.parent.children.remove(c);
        }
        unmapFrame(c);
        c.obj.caps.remove(c);
        if (c.obj.caps.isEmpty()) {
            destroy(c.obj);
        }
    }

    private void destroy(Obj o) {
        o.there = false;
        objects.remove(o);
        if (o.kind == 1) {
            for (int i = 15; i >= 0; i--) {
                if (o.slots[i] != null) {
                    remove(o.slots[i]);
                }
            }
        }
        if (o.kind == 2) {
            quit(o);
        }
        for (Obj t : new ArrayList<>(o.queue)) {
            quit(t);
            t.state = "STOPPED";
        }
        for (int i = 0; i < 4; i++) {
            bound[i] = bound[i] == o ? null : bound[i];
        }
        for (Obj other : objects) {
            other.table = other.table == o ? null : other.table;
            other.space = other.space == o ? null : other.space;
        }
        if (o.kind == 6) {
            takeLeafOut(o);
            for (int i = 0; i < 4; i++) {
                o.frames[i] = null;
            }
        }
    }

    private boolean takeLeafOut(Obj leaf) {
        for (Obj space : objects) {
            for (int i = 0; space.kind == 5 && i < 4; i++) {
                if (space.leaves[i] == leaf) {
                    space.leaves[i] = null;
                    return true;
                }
            }
        }
        return false;
    }

    private boolean unmapFrame(Cap c) {
        for (Obj leaf : objects) {
            for (int i = 0; leaf.kind == 6 && i < 4; i++) {
                if (leaf.frames[i] == c) {
                    leaf.frames[i] = null;
                    return true;
                }
            }
        }
        return false;
    }

    private boolean mapped(Cap c) {
        for (Obj o : objects) {
            for (int i = 0; i < 4; i++) {
                if (o.kind == 5 && o.leaves[i] == c.obj || o.kind == 6 && o.frames[i] == c) {
                    return true;
                }
            }
        }
        return false;
    }

    int configure(int t, int table, int space, int priority) {
        Obj me = running();
        if (me == null) {
            return 8;
        }
        Cap c = capAt(me, t, 2);
        Cap tableCap = capAt(me, table, 1);
        Cap spaceCap = capAt(me, space, 5);
        if (c == null || table != -1 && tableCap == null || space != -1 && spaceCap == null) {
            return 1;
        }
        if (priority < 0 || priority > 3) {
            return 4;
        }
        if (priority > me.priority) {
            return 2;
        }
        Obj o = c.obj;
        o.table = tableCap == null ? null : tableCap.obj;
        o.space = spaceCap == null ? null : spaceCap.obj;
        if (o.priority != priority && o.state.equals("READY")) {
            ready.get(o.priority).remove(o);
            ready.get(priority).add(o);
        }
        o.priority = priority;
        return 0;
    }

    int run(int t, boolean on) {
        Obj me = running();
        if (me == null) {
            return 8;
        }
        Cap c = capAt(me, t, 2);
        if (c == null) {
            return 1;
        }
        if (on && c.obj.state.equals("STOPPED")) {
            makeReady(c.obj);
        }
        if (!on) {
            quit(c.obj);
            c.obj.state = "STOPPED";
        }
        return 0;
    }

    private static Obj firstAt(Obj place, String state) {
        for (Obj t : place.queue) {
            if (t.state.equals(state)) {
                return t;
            }
        }
        return null;
    }

    private void pass(Obj a, int c, int badge, int word, boolean grant, Obj b, int d) {
        b.word = word;
        b.badge = badge;
        b.mark = 0;
        Cap offered = capAt(a, c, 1, 2, 3, 4, 5, 6, 7);
        Object[] to = emptyAt(b, d);
        if (grant && offered != null && to != null) {
            give(offered, offered.obj, offered.rights, offered.badge, (Obj) to[0], (int) to[1]);
            b.mark = 1;
        }
    }

    int send(int g, int word, int c, boolean block) {
        Obj me = running();
        if (me == null) {
            return 8;
        }
        Cap gate = capAt(me, g, 3);
        if (gate == null) {
            return 1;
        }
        if (gate.rights / 2 % 2 == 0) {
            return 2;
        }
        boolean grant = gate.rights / 4 == 1;
        Obj other = firstAt(gate.obj, "RECEIVING");
        if (other != null) {
            pass(me, c, gate.badge, word, grant, other, other.message[0]);
            makeReady(other);
            return 0;
        }
        if (!block) {
            return 6;
        }
        makeWait(me, gate.obj, "SENDING", c, gate.badge, word, grant ? 1 : 0);
        return 10;
    }

    int receive(int g, int d, boolean block) {
        Obj me = running();
        if (me == null) {
            return 8;
        }
        Cap gate = capAt(me, g, 3);
        if (gate == null) {
            return 1;
        }
        if (gate.rights % 2 == 0) {
            return 2;
        }
        Obj other = firstAt(gate.obj, "SENDING");
        if (other != null) {
            int[] m = other.message;
            pass(other, m[0], m[1], m[2], m[3] == 1, me, d);
            makeReady(other);
            return 0;
        }
        if (!block) {
            return 6;
        }
        makeWait(me, gate.obj, "RECEIVING", d);
        return 10;
    }

    private static void hear(Obj thread, int number) {
        thread.word = number;
        thread.badge = 0;
        thread.mark = 0;
    }

    private void ring(Obj bell, int number) {
        Obj other = firstAt(bell, "LISTENING");
        if (other == null) {
            bell.word = bell.word | number;
        } else {
            hear(other, number);
            makeReady(other);
        }
    }

    int signal(int b) {
        Obj me = running();
        if (me == null) {
            return 8;
        }
        Cap bell = capAt(me, b, 4);
        if (bell == null) {
            return 1;
        }
        if (bell.rights / 2 % 2 == 0) {
            return 2;
        }
        ring(bell.obj, bell.badge == 0 ? 256 : bell.badge);
        return 0;
    }

    int listen(int b, boolean block) {
        Obj me = running();
        if (me == null) {
            return 8;
        }
        Cap bell = capAt(me, b, 4);
        if (bell == null) {
            return 1;
        }
        if (bell.rights % 2 == 0) {
            return 2;
        }
        if (bell.obj.word != 0) {
            hear(me, bell.obj.word);
            bell.obj.word = 0;
            return 0;
        }
        if (!block) {
            return 6;
        }
        makeWait(me, bell.obj, "LISTENING");
        return 10;
    }

    int map(int c, int s, int at) {
        Obj me = running();
        if (me == null) {
            return 8;
        }
        Cap cap = capAt(me, c, 6, 7);
        Cap space = capAt(me, s, 5);
        if (cap == null || space == null) {
            return 1;
        }
        if (at < 0 || at > 15) {
            return 4;
        }
        if (mapped(cap)) {
            return 7;
        }
        Obj leaf = space.obj.leaves[at / 4];
        if (cap.obj.kind == 6) {
            if (leaf != null) {
                return 7;
            }
            space.obj.leaves[at / 4] = cap.obj;
            return 0;
        }
        if (leaf == null || leaf.frames[at % 4] != null) {
            return 7;
        }
        leaf.frames[at % 4] = cap;
        return 0;
    }

    int unmap(int c) {
        Obj me = running();
        if (me == null) {
            return 8;
        }
        Cap cap = capAt(me, c, 6, 7);
        if (cap == null) {
            return 1;
        }
        boolean was = cap.obj.kind == 6 ? takeLeafOut(cap.obj) : unmapFrame(cap);
        return was ? 0 : 7;
    }

    int bind(int line, int b) {
        Obj me = running();
        if (me == null) {
            return 8;
        }
        if (line < 0 || line > 3) {
            return 4;
        }
        Cap bell = capAt(me, b, 4);
        if (b != -1 && bell == null) {
            return 1;
        }
        bound[line] = bell == null ? null : bell.obj;
        return 0;
    }

    int interrupt(int line) {
        if (line < 0 || line > 3 || bound[line] == null) {
            return 0;
        }
        ring(bound[line], new int[] {1, 2, 4, 8}[line]);
        return 1;
    }

    int tick() {
        Obj me = running();
        if (me != null) {
            me.slice = me.slice - 1;
            if (me.slice == 0) {
                makeReady(me);
            }
        }
        return current();
    }

    int current() {
        Obj me = running();
        return me == null ? -1 : me.at;
    }

    private Obj find(int kind, int at) {
        for (Obj o : objects) {
            if (o.kind == kind && o.at == at) {
                return o;
            }
        }
        return null;
    }

    int slot(int table, int i, int what) {
        Obj o = find(1, table);
        if (o == null || i < 0 || i > 15 || o.slots[i] == null) {
            return -1;
        }
        Cap c = o.slots[i];
        return switch (what) {
            case 0 -> c.obj.kind;
            case 1 -> c.obj.at;
            case 2 -> c.rights;
            case 3 -> c.badge;
            case 4 -> c.children.size();
            case 5 -> c.parent == null ? -1 : 16 * c.parent.table.at + c.parent.slot;
            case 6 -> c.obj.kind == 0 ? freePoint(c) : c.obj.kind < 6 ? 0 : mapped(c) ? 1 : 0;
            case 7 -> c.obj.caps.size();
            default -> -1;
        };
    }

    int thread(int t, int what) {
        Obj o = find(2, t);
        if (o == null) {
            return -1;
        }
        return switch (what) {
            case 0 -> 1 + List.of("STOPPED", "READY", "SENDING", "RECEIVING", "LISTENING").indexOf(o.state);
            case 1 -> o.priority;
            case 2 -> o.word;
            case 3 -> o.badge;
            case 4 -> o.mark;
            case 5 -> o.slice;
            case 6 -> o.table == null ? -1 : o.table.at;
            case 7 -> o.space == null ? -1 : o.space.at;
            default -> -1;
        };
    }

    int page(int t, int at) {
        Obj o = find(2, t);
        if (o == null || o.space == null || at < 0 || at > 15 || o.space.leaves[at / 4] == null) {
            return -1;
        }
        Cap c = o.space.leaves[at / 4].frames[at % 4];
        return c == null ? -1 : c.obj.at + 128 * c.rights;
    }
}
