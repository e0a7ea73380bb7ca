/**
 * A small kernel in which every thing is made out of untyped memory and used through capabilities.
 * The numbered promises that it keeps stand in the document, DOC.md.
 */
public final class CapTreeKernel {
    public static final int NONE = -1;

    private static final int UNITS = 128;

    private static final int UNTYPED = 0;
    private static final int TABLE = 1;
    private static final int THREAD = 2;
    private static final int GATE = 3;
    private static final int BELL = 4;
    private static final int SPACE = 5;
    private static final int LEAF = 6;
    private static final int FRAME = 7;

    /** By kind; the size of untyped memory is told by its bits instead. */
    private static final int[] SIZES = {0, 16, 8, 2, 2, 4, 4, 8};
    private static final int MIN_BITS = 1;
    private static final int MAX_BITS = 6;

    private static final int READ = 1;
    private static final int WRITE = 2;
    private static final int GRANT = 4;
    private static final int ALL_RIGHTS = 7;
    private static final int MAX_BADGE = 255;
    private static final int NO_BADGE_NUMBER = 256;

    private static final int TABLE_SLOTS = 16;
    private static final int LAST_ADDRESS = 271;
    private static final int NO_SLOT = -1;
    /** The address by which a caller says that it means nothing at all. */
    private static final int NOTHING = -1;

    private static final int THREAD_PLACES = 16;
    private static final int THREAD_SIZE = 8;
    private static final int PRIORITIES = 4;
    private static final int FULL_SLICE = 3;
    private static final int INTERRUPT_LINES = 4;

    private static final int ENTRIES = 4;
    private static final int PAGES = 16;

    private static final int STOPPED = 1;
    private static final int READY = 2;
    private static final int SENDING = 3;
    private static final int RECEIVING = 4;
    private static final int LISTENING = 5;

    private static final int DONE = 0;
    private static final int NO_CAPABILITY = 1;
    private static final int RIGHT = 2;
    private static final int OCCUPIED = 3;
    private static final int RANGE = 4;
    private static final int ROOM = 5;
    private static final int BUSY = 6;
    private static final int MAPPED = 7;
    private static final int IDLE = 8;
    private static final int WAITS = 10;

    /**
     * The slots of all tables. A table has as many slots as units and no two tables share a unit,
     * so that slot i of the table at unit t is held at t + i, which is called its place.
     */
    private final Capability[] slots;
    /** Threads begin at multiples of their size: the thread at unit t is held at t / THREAD_SIZE. */
    private final KernelThread[] threads;
    private final ThreadLine[] readyLines;
    private final Bell[] boundBells;

    public CapTreeKernel() {
        slots = new Capability[UNITS];
        threads = new KernelThread[THREAD_PLACES];
        boundBells = new Bell[INTERRUPT_LINES];
        readyLines = new ThreadLine[PRIORITIES];
        for (int p = 0; p < PRIORITIES; p++) {
            readyLines[p] = new ThreadLine();
        }
        Table table = new Table(0);
        KernelThread first = new KernelThread(16);
        first.table = table;
        first.priority = PRIORITIES - 1;
        threads[first.at / THREAD_SIZE] = first;
        becomeReady(first);
        put(new Capability(table, ALL_RIGHTS, 0, null), 0);
        put(new Capability(first, ALL_RIGHTS, 0, null), 1);
        put(new Capability(new Untyped(32, 32), ALL_RIGHTS, 0, null), 2);
        put(new Capability(new Untyped(64, 64), ALL_RIGHTS, 0, null), 3);
    }

    // ---- system calls: capabilities ----

    public int retype(int u, int kind, int bits, int dest) {
        KernelThread caller = currentThread();
        if (caller == null) {
            return IDLE;
        }
        Capability source = capabilityAt(caller, u);
        if (source == null || !(source.thing instanceof Untyped memory)) {
            return NO_CAPABILITY;
        }
        if (kind < UNTYPED || kind > FRAME) {
            return RANGE;
        }
        if (kind == UNTYPED && (bits < MIN_BITS || bits > MAX_BITS)) {
            return RANGE;
        }
        int place = placeOf(caller, dest);
        if (!isEmptySlot(place)) {
            return OCCUPIED;
        }
        int size = kind == UNTYPED ? 1 << bits : SIZES[kind];
        int at = roundUp(freePoint(source, memory), size);
        if (at + size > memory.at + memory.size) {
            return ROOM;
        }
        memory.latestEnd = at + size;
        put(new Capability(makeThing(kind, at, size), ALL_RIGHTS, 0, source), place);
        return DONE;
    }

    public int copy(int src, int dest, int rights, int badge) {
        KernelThread caller = currentThread();
        if (caller == null) {
            return IDLE;
        }
        Capability source = capabilityAt(caller, src);
        if (source == null) {
            return NO_CAPABILITY;
        }
        if (source.thing.kind == UNTYPED) {
            return RIGHT;
        }
        if (rights < 0 || rights > ALL_RIGHTS || badge < 0 || badge > MAX_BADGE) {
            return RANGE;
        }
        int place = placeOf(caller, dest);
        if (!isEmptySlot(place)) {
            return OCCUPIED;
        }
        int kind = source.thing.kind;
        boolean takesBadge = source.badge == 0 && (kind == GATE || kind == BELL);
        int newBadge = takesBadge ? badge : source.badge;
        put(new Capability(source.thing, source.rights & rights, newBadge, source), place);
        return DONE;
    }

    public int move(int src, int dest) {
        KernelThread caller = currentThread();
        if (caller == null) {
            return IDLE;
        }
        Capability moved = capabilityAt(caller, src);
        if (moved == null) {
            return NO_CAPABILITY;
        }
        int place = placeOf(caller, dest);
        if (!isEmptySlot(place)) {
            return OCCUPIED;
        }
        slots[moved.place] = null;
        put(moved, place);
        return DONE;
    }

    public int delete(int a) {
        KernelThread caller = currentThread();
        if (caller == null) {
            return IDLE;
        }
        Capability removed = capabilityAt(caller, a);
        if (removed == null) {
            return NO_CAPABILITY;
        }
        removed.doomed = true;
        removeDoomed();
        return DONE;
    }

    public int revoke(int a) {
        KernelThread caller = currentThread();
        if (caller == null) {
            return IDLE;
        }
        Capability ancestor = capabilityAt(caller, a);
        if (ancestor == null) {
            return NO_CAPABILITY;
        }
        // All are marked before the first goes: on the way the ancestor itself may be removed.
        for (int place = 0; place < UNITS; place++) {
            Capability c = slots[place];
            if (c != null && descendsFrom(c, ancestor)) {
                c.doomed = true;
            }
        }
        removeDoomed();
        return DONE;
    }

    // ---- system calls: threads ----

    public int configure(int t, int table, int space, int priority) {
        KernelThread caller = currentThread();
        if (caller == null) {
            return IDLE;
        }
        KernelThread changed = threadAt(caller, t);
        if (changed == null) {
            return NO_CAPABILITY;
        }
        Table newTable = tableAt(caller, table);
        if (newTable == null && table != NOTHING) {
            return NO_CAPABILITY;
        }
        Space newSpace = spaceAt(caller, space);
        if (newSpace == null && space != NOTHING) {
            return NO_CAPABILITY;
        }
        if (priority < 0 || priority >= PRIORITIES) {
            return RANGE;
        }
        if (priority > caller.priority) {
            return RIGHT;
        }
        changed.table = newTable;
        changed.space = newSpace;
        changePriority(changed, priority);
        return DONE;
    }

    public int run(int t, boolean on) {
        KernelThread caller = currentThread();
        if (caller == null) {
            return IDLE;
        }
        KernelThread changed = threadAt(caller, t);
        if (changed == null) {
            return NO_CAPABILITY;
        }
        if (!on) {
            becomeStopped(changed);
        } else if (changed.state == STOPPED) {
            becomeReady(changed);
        }
        return DONE;
    }

    // ---- system calls: gates and bells ----

    public int send(int g, int word, int c, boolean block) {
        KernelThread caller = currentThread();
        if (caller == null) {
            return IDLE;
        }
        Capability used = capabilityAt(caller, g);
        if (used == null || !(used.thing instanceof Gate gate)) {
            return NO_CAPABILITY;
        }
        if ((used.rights & WRITE) == 0) {
            return RIGHT;
        }
        KernelThread receiver = firstWaiting(gate.waiting, RECEIVING);
        if (receiver == null && !block) {
            return BUSY;
        }
        caller.sentWord = word;
        caller.sentBadge = used.badge;
        caller.mayGrant = (used.rights & GRANT) != 0;
        caller.capAddress = c;
        if (receiver == null) {
            becomeWaiting(caller, SENDING, gate.waiting);
            return WAITS;
        }
        transfer(caller, receiver);
        becomeReady(receiver);
        return DONE;
    }

    public int receive(int g, int d, boolean block) {
        KernelThread caller = currentThread();
        if (caller == null) {
            return IDLE;
        }
        Capability used = capabilityAt(caller, g);
        if (used == null || !(used.thing instanceof Gate gate)) {
            return NO_CAPABILITY;
        }
        if ((used.rights & READ) == 0) {
            return RIGHT;
        }
        KernelThread sender = firstWaiting(gate.waiting, SENDING);
        if (sender == null && !block) {
            return BUSY;
        }
        caller.capAddress = d;
        if (sender == null) {
            becomeWaiting(caller, RECEIVING, gate.waiting);
            return WAITS;
        }
        transfer(sender, caller);
        becomeReady(sender);
        return DONE;
    }

    public int signal(int b) {
        KernelThread caller = currentThread();
        if (caller == null) {
            return IDLE;
        }
        Capability used = capabilityAt(caller, b);
        if (used == null || !(used.thing instanceof Bell bell)) {
            return NO_CAPABILITY;
        }
        if ((used.rights & WRITE) == 0) {
            return RIGHT;
        }
        ring(bell, used.badge == 0 ? NO_BADGE_NUMBER : used.badge);
        return DONE;
    }

    public int listen(int b, boolean block) {
        KernelThread caller = currentThread();
        if (caller == null) {
            return IDLE;
        }
        Capability used = capabilityAt(caller, b);
        if (used == null || !(used.thing instanceof Bell bell)) {
            return NO_CAPABILITY;
        }
        if ((used.rights & READ) == 0) {
            return RIGHT;
        }
        if (bell.word != 0) {
            caller.hear(bell.word);
            bell.word = 0;
            return DONE;
        }
        if (!block) {
            return BUSY;
        }
        becomeWaiting(caller, LISTENING, bell.waiting);
        return WAITS;
    }

    // ---- system calls: spaces ----

    public int map(int c, int s, int at) {
        KernelThread caller = currentThread();
        if (caller == null) {
            return IDLE;
        }
        Capability mapped = mappableAt(caller, c);
        if (mapped == null) {
            return NO_CAPABILITY;
        }
        Space space = spaceAt(caller, s);
        if (space == null) {
            return NO_CAPABILITY;
        }
        if (at < 0 || at >= PAGES) {
            return RANGE;
        }
        if (mapped.thing instanceof Leaf leaf) {
            return mapLeaf(leaf, space, at / ENTRIES);
        }
        return mapFrame(mapped, space.leaves[at / ENTRIES], at % ENTRIES);
    }

    public int unmap(int c) {
        KernelThread caller = currentThread();
        if (caller == null) {
            return IDLE;
        }
        Capability mapped = mappableAt(caller, c);
        if (mapped == null) {
            return NO_CAPABILITY;
        }
        if (!isMapped(mapped)) {
            return MAPPED;
        }
        if (mapped.thing instanceof Leaf leaf) {
            leaveSpace(leaf);
        } else {
            leaveLeaf(mapped);
        }
        return DONE;
    }

    // ---- interrupts ----

    public int bind(int line, int b) {
        KernelThread caller = currentThread();
        if (caller == null) {
            return IDLE;
        }
        if (line < 0 || line >= INTERRUPT_LINES) {
            return RANGE;
        }
        Bell bell = bellAt(caller, b);
        if (bell == null && b != NOTHING) {
            return NO_CAPABILITY;
        }
        boundBells[line] = bell;
        return DONE;
    }

    public int interrupt(int line) {
        if (line < 0 || line >= INTERRUPT_LINES) {
            return 0;
        }
        Bell bell = boundBells[line];
        if (bell == null) {
            return 0;
        }
        ring(bell, 1 << line);
        return 1;
    }

    public int tick() {
        KernelThread ticked = currentThread();
        if (ticked != null) {
            ticked.slice--;
            if (ticked.slice == 0) {
                becomeReady(ticked);
            }
        }
        return unitOf(currentThread());
    }

    // ---- questions ----

    public int current() {
        return unitOf(currentThread());
    }

    public int slot(int table, int i, int what) {
        if (table < 0 || table >= UNITS || table % TABLE_SLOTS != 0 || i < 0 || i >= TABLE_SLOTS) {
            return NONE;
        }
        // Where there is no table all places are empty, so that no list of tables is asked.
        Capability c = slots[table + i];
        if (c == null) {
            return NONE;
        }
        switch (what) {
            case 0:
                return c.thing.kind;
            case 1:
                return c.thing.at;
            case 2:
                return c.rights;
            case 3:
                return c.badge;
            case 4:
                return childrenOf(c);
            case 5:
                return whereIs(c.parent);
            case 6:
                return useOf(c);
            case 7:
                return capabilitiesFor(c.thing);
            default:
                return NONE;
        }
    }

    public int thread(int t, int what) {
        KernelThread asked = threadOfUnit(t);
        if (asked == null) {
            return NONE;
        }
        switch (what) {
            case 0:
                return asked.state;
            case 1:
                return asked.priority;
            case 2:
                return asked.word;
            case 3:
                return asked.badge;
            case 4:
                return asked.mark;
            case 5:
                return asked.slice;
            case 6:
                return unitOf(asked.table);
            case 7:
                return unitOf(asked.space);
            default:
                return NONE;
        }
    }

    public int page(int t, int at) {
        KernelThread asked = threadOfUnit(t);
        if (asked == null || asked.space == null || at < 0 || at >= PAGES) {
            return NONE;
        }
        Leaf leaf = asked.space.leaves[at / ENTRIES];
        if (leaf == null) {
            return NONE;
        }
        Capability frame = leaf.frames[at % ENTRIES];
        if (frame == null) {
            return NONE;
        }
        return frame.thing.at + UNITS * frame.rights;
    }

    // ---- addresses ----

    /** The place of the slot that the thread means by the address, or NO_SLOT. */
    private int placeOf(KernelThread thread, int address) {
        if (thread.table == null || address < 0 || address > LAST_ADDRESS) {
            return NO_SLOT;
        }
        if (address < TABLE_SLOTS) {
            return thread.table.at + address;
        }
        Capability inner = slots[thread.table.at + address / TABLE_SLOTS - 1];
        if (inner == null || inner.thing.kind != TABLE) {
            return NO_SLOT;
        }
        return inner.thing.at + address % TABLE_SLOTS;
    }

    private boolean isEmptySlot(int place) {
        return place != NO_SLOT && slots[place] == null;
    }

    private Capability capabilityAt(KernelThread thread, int address) {
        int place = placeOf(thread, address);
        return place == NO_SLOT ? null : slots[place];
    }

    private KernelThread threadAt(KernelThread caller, int address) {
        Capability c = capabilityAt(caller, address);
        return c != null && c.thing instanceof KernelThread found ? found : null;
    }

    private Table tableAt(KernelThread caller, int address) {
        Capability c = capabilityAt(caller, address);
        return c != null && c.thing instanceof Table found ? found : null;
    }

    private Space spaceAt(KernelThread caller, int address) {
        Capability c = capabilityAt(caller, address);
        return c != null && c.thing instanceof Space found ? found : null;
    }

    private Bell bellAt(KernelThread caller, int address) {
        Capability c = capabilityAt(caller, address);
        return c != null && c.thing instanceof Bell found ? found : null;
    }

    /** The capability at the address if it is for a leaf or a frame. */
    private Capability mappableAt(KernelThread caller, int address) {
        Capability c = capabilityAt(caller, address);
        if (c == null || (c.thing.kind != LEAF && c.thing.kind != FRAME)) {
            return null;
        }
        return c;
    }

    // ---- untyped memory ----

    private int freePoint(Capability source, Untyped memory) {
        return childrenOf(source) == 0 ? memory.at : memory.latestEnd;
    }

    private static int roundUp(int unit, int size) {
        return (unit + size - 1) / size * size;
    }

    private Thing makeThing(int kind, int at, int size) {
        switch (kind) {
            case UNTYPED:
                return new Untyped(at, size);
            case TABLE:
                return new Table(at);
            case THREAD:
                KernelThread made = new KernelThread(at);
                threads[at / THREAD_SIZE] = made;
                return made;
            case GATE:
                return new Gate(at);
            case BELL:
                return new Bell(at);
            case SPACE:
                return new Space(at);
            case LEAF:
                return new Leaf(at);
            default:
                return new Frame(at);
        }
    }

    // ---- the tree of capabilities ----

    private void put(Capability c, int place) {
        slots[place] = c;
        c.place = place;
    }

    private static boolean descendsFrom(Capability c, Capability ancestor) {
        for (Capability p = c.parent; p != null; p = p.parent) {
            if (p == ancestor) {
                return true;
            }
        }
        return false;
    }

    private int childrenOf(Capability parent) {
        int count = 0;
        for (int place = 0; place < UNITS; place++) {
            Capability c = slots[place];
            if (c != null && c.parent == parent) {
                count++;
            }
        }
        return count;
    }

    private int capabilitiesFor(Thing thing) {
        int count = 0;
        for (int place = 0; place < UNITS; place++) {
            Capability c = slots[place];
            if (c != null && c.thing == thing) {
                count++;
            }
        }
        return count;
    }

    private static int whereIs(Capability c) {
        if (c == null) {
            return NONE;
        }
        int i = c.place % TABLE_SLOTS;
        return TABLE_SLOTS * (c.place - i) + i;
    }

    /** What a slot tells of the use of its object: a free point, or whether it is mapped. */
    private int useOf(Capability c) {
        if (c.thing instanceof Untyped memory) {
            return freePoint(c, memory);
        }
        return isMapped(c) ? 1 : 0;
    }

    // ---- removing ----

    /**
     * Removes all marked capabilities, and those that are marked on the way because their table is
     * destroyed. Every round but the last removes one at least, and there are at most UNITS.
     */
    private void removeDoomed() {
        boolean found = true;
        for (int round = 0; round <= UNITS && found; round++) {
            found = false;
            for (int place = 0; place < UNITS; place++) {
                Capability c = slots[place];
                if (c != null && c.doomed) {
                    removeOne(c);
                    found = true;
                }
            }
        }
    }

    private void removeOne(Capability removed) {
        slots[removed.place] = null;
        for (int place = 0; place < UNITS; place++) {
            Capability c = slots[place];
            if (c != null && c.parent == removed) {
                c.parent = removed.parent;
            }
        }
        leaveLeaf(removed);
        if (capabilitiesFor(removed.thing) == 0) {
            destroy(removed.thing);
        }
    }

    private void destroy(Thing thing) {
        if (thing instanceof Table table) {
            destroyTable(table);
        } else if (thing instanceof KernelThread thread) {
            leaveLine(thread);
            threads[thread.at / THREAD_SIZE] = null;
        } else if (thing instanceof Gate gate) {
            stopAllAt(gate.waiting);
        } else if (thing instanceof Bell bell) {
            stopAllAt(bell.waiting);
            unbindAll(bell);
        } else if (thing instanceof Space space) {
            destroySpace(space);
        } else if (thing instanceof Leaf leaf) {
            destroyLeaf(leaf);
        }
    }

    private void destroyTable(Table table) {
        for (int i = 0; i < TABLE_SLOTS; i++) {
            Capability c = slots[table.at + i];
            if (c != null) {
                c.doomed = true;
            }
        }
        for (int i = 0; i < THREAD_PLACES; i++) {
            KernelThread t = threads[i];
            if (t != null && t.table == table) {
                t.table = null;
            }
        }
    }

    private void unbindAll(Bell bell) {
        for (int line = 0; line < INTERRUPT_LINES; line++) {
            if (boundBells[line] == bell) {
                boundBells[line] = null;
            }
        }
    }

    private void destroySpace(Space space) {
        for (int i = 0; i < THREAD_PLACES; i++) {
            KernelThread t = threads[i];
            if (t != null && t.space == space) {
                t.space = null;
            }
        }
        for (int entry = 0; entry < ENTRIES; entry++) {
            Leaf leaf = space.leaves[entry];
            if (leaf != null) {
                leaveSpace(leaf);
            }
        }
    }

    private static void destroyLeaf(Leaf leaf) {
        leaveSpace(leaf);
        for (int entry = 0; entry < ENTRIES; entry++) {
            Capability frame = leaf.frames[entry];
            if (frame != null) {
                leaveLeaf(frame);
            }
        }
    }

    private void stopAllAt(ThreadLine line) {
        for (int i = 0; i < THREAD_PLACES; i++) {
            KernelThread t = threads[i];
            if (t != null && t.line == line) {
                becomeStopped(t);
            }
        }
    }

    // ---- threads ----

    private KernelThread currentThread() {
        for (int p = PRIORITIES - 1; p >= 0; p--) {
            if (readyLines[p].first != null) {
                return readyLines[p].first;
            }
        }
        return null;
    }

    private KernelThread threadOfUnit(int unit) {
        if (unit < 0 || unit >= UNITS || unit % THREAD_SIZE != 0) {
            return null;
        }
        return threads[unit / THREAD_SIZE];
    }

    private static int unitOf(Thing thing) {
        return thing == null ? NONE : thing.at;
    }

    private void becomeReady(KernelThread t) {
        leaveLine(t);
        t.state = READY;
        t.slice = FULL_SLICE;
        joinLine(t, readyLines[t.priority]);
    }

    private static void becomeStopped(KernelThread t) {
        leaveLine(t);
        t.state = STOPPED;
    }

    private static void becomeWaiting(KernelThread t, int state, ThreadLine line) {
        leaveLine(t);
        t.state = state;
        joinLine(t, line);
    }

    private void changePriority(KernelThread t, int priority) {
        if (priority == t.priority) {
            return;
        }
        t.priority = priority;
        if (t.state == READY) {
            leaveLine(t);
            joinLine(t, readyLines[priority]);
        }
    }

    /** The thread must stand in no line. */
    private static void joinLine(KernelThread t, ThreadLine line) {
        if (line.last == null) {
            line.first = t;
        } else {
            line.last.next = t;
        }
        line.last = t;
        t.line = line;
    }

    private static void leaveLine(KernelThread t) {
        ThreadLine line = t.line;
        if (line == null) {
            return;
        }
        KernelThread before = null;
        for (KernelThread k = line.first; k != null && k != t; k = k.next) {
            before = k;
        }
        if (before == null) {
            line.first = t.next;
        } else {
            before.next = t.next;
        }
        if (line.last == t) {
            line.last = before;
        }
        t.next = null;
        t.line = null;
    }

    // ---- messages and signals ----

    /** Threads of two states never wait at one gate together, so that the first tells for all. */
    private static KernelThread firstWaiting(ThreadLine line, int state) {
        KernelThread first = line.first;
        return first != null && first.state == state ? first : null;
    }

    private void transfer(KernelThread sender, KernelThread receiver) {
        receiver.word = sender.sentWord;
        receiver.badge = sender.sentBadge;
        receiver.mark = handOver(sender, receiver) ? 1 : 0;
    }

    private boolean handOver(KernelThread sender, KernelThread receiver) {
        if (!sender.mayGrant) {
            return false;
        }
        Capability offered = capabilityAt(sender, sender.capAddress);
        if (offered == null || offered.thing.kind == UNTYPED) {
            return false;
        }
        int place = placeOf(receiver, receiver.capAddress);
        if (!isEmptySlot(place)) {
            return false;
        }
        put(new Capability(offered.thing, offered.rights, offered.badge, offered), place);
        return true;
    }

    private void ring(Bell bell, int number) {
        KernelThread listener = firstWaiting(bell.waiting, LISTENING);
        if (listener == null) {
            bell.word |= number;
            return;
        }
        listener.hear(number);
        becomeReady(listener);
    }

    // ---- spaces ----

    private static int mapLeaf(Leaf leaf, Space space, int entry) {
        if (leaf.space != null || space.leaves[entry] != null) {
            return MAPPED;
        }
        space.leaves[entry] = leaf;
        leaf.space = space;
        leaf.entry = entry;
        return DONE;
    }

    private static int mapFrame(Capability frame, Leaf leaf, int entry) {
        if (frame.leaf != null || leaf == null || leaf.frames[entry] != null) {
            return MAPPED;
        }
        leaf.frames[entry] = frame;
        frame.leaf = leaf;
        frame.entry = entry;
        return DONE;
    }

    private static boolean isMapped(Capability c) {
        return c.thing instanceof Leaf leaf ? leaf.space != null : c.leaf != null;
    }

    private static void leaveSpace(Leaf leaf) {
        if (leaf.space != null) {
            leaf.space.leaves[leaf.entry] = null;
            leaf.space = null;
        }
    }

    private static void leaveLeaf(Capability frame) {
        if (frame.leaf != null) {
            frame.leaf.frames[frame.entry] = null;
            frame.leaf = null;
        }
    }

    // ---- what the kernel is made of ----

    private static final class Capability {
        final Thing thing;
        final int rights;
        final int badge;
        Capability parent;
        int place;
        /** For a frame: where this capability is mapped, null when it is not. */
        Leaf leaf;
        int entry;
        boolean doomed;

        Capability(Thing thing, int rights, int badge, Capability parent) {
            this.thing = thing;
            this.rights = rights;
            this.badge = badge;
            this.parent = parent;
        }
    }

    /** An object of the document. */
    private abstract static class Thing {
        final int kind;
        final int at;

        Thing(int kind, int at) {
            this.kind = kind;
            this.at = at;
        }
    }

    private static final class Untyped extends Thing {
        final int size;
        /** The unit behind the latest object made out of it; counts only while there are children. */
        int latestEnd;

        Untyped(int at, int size) {
            super(UNTYPED, at);
            this.size = size;
        }
    }

    private static final class Table extends Thing {
        Table(int at) {
            super(TABLE, at);
        }
    }

    private static final class KernelThread extends Thing {
        Table table;
        Space space;
        int priority;
        int state;
        int slice;
        int word;
        int badge;
        int mark;
        /** The line in which it stands, be it of the READY ones or at a gate or bell. */
        ThreadLine line;
        KernelThread next;
        int sentWord;
        int sentBadge;
        boolean mayGrant;
        /** What a sender offers or where a receiver wants it; looked up at the transfer alone. */
        int capAddress;

        KernelThread(int at) {
            super(THREAD, at);
            state = STOPPED;
        }

        void hear(int number) {
            word = number;
            badge = 0;
            mark = 0;
        }
    }

    private static final class Gate extends Thing {
        final ThreadLine waiting;

        Gate(int at) {
            super(GATE, at);
            waiting = new ThreadLine();
        }
    }

    private static final class Bell extends Thing {
        final ThreadLine waiting;
        int word;

        Bell(int at) {
            super(BELL, at);
            waiting = new ThreadLine();
        }
    }

    private static final class Space extends Thing {
        final Leaf[] leaves;

        Space(int at) {
            super(SPACE, at);
            leaves = new Leaf[ENTRIES];
        }
    }

    private static final class Leaf extends Thing {
        /** The space in which it is, null when it is in none. */
        Space space;
        int entry;
        final Capability[] frames;

        Leaf(int at) {
            super(LEAF, at);
            frames = new Capability[ENTRIES];
        }
    }

    private static final class Frame extends Thing {
        Frame(int at) {
            super(FRAME, at);
        }
    }

    /** Threads in the order in which they came; each knows the next. */
    private static final class ThreadLine {
        KernelThread first;
        KernelThread last;
    }
}
