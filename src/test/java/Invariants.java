import java.util.ArrayList;
import java.util.List;

/**
 * What the document's sentences say of every state, whatever the calls before: looked at in the answers of the
 * questions alone, so that neither the kernel's way of holding its state nor the model has a part in it.
 */
final class Invariants {
    private static final int NONE = -1;
    /** By kind; the size of untyped memory is told by no question. */
    private static final int[] SIZES = {0, 16, 8, 2, 2, 4, 4, 8};

    private final Picture state;
    private final List<String> broken = new ArrayList<>();

    private Invariants(Picture state) {
        this.state = state;
    }

    /** The sentences that do not hold, with where; empty when all do. */
    static List<String> brokenIn(Picture state) {
        Invariants all = new Invariants(state);
        for (int place = 0; place < Picture.PLACES; place++) {
            if (all.isEmpty(place)) {
                all.checkEmptySlot(place);
            } else {
                all.checkCapability(place);
                all.checkParent(place);
                all.checkUse(place);
            }
        }
        all.checkNoOverlap();
        for (int t = 0; t < Picture.THREADS; t++) {
            all.checkThread(t);
        }
        all.checkCurrent();
        all.checkPages();
        return all.broken;
    }

    private void check(boolean holds, String sentence, int where) {
        if (!holds) {
            broken.add(sentence + ", at " + where);
        }
    }

    private boolean isEmpty(int place) {
        return kind(place) == NONE;
    }

    private int kind(int place) {
        return state.slot(place, 0);
    }

    private int at(int place) {
        return state.slot(place, 1);
    }

    private boolean isThere(int kind, int at) {
        return countOf(kind, at) > 0;
    }

    private int countOf(int kind, int at) {
        int count = 0;
        for (int place = 0; place < Picture.PLACES; place++) {
            if (kind(place) == kind && at(place) == at) {
                count++;
            }
        }
        return count;
    }

    /** The place of the parent, or NONE. */
    private int parent(int place) {
        int where = state.slot(place, 5);
        return where == NONE ? NONE : where / 16 + where % 16;
    }

    private void checkEmptySlot(int place) {
        for (int what = 1; what < 8; what++) {
            check(state.slot(place, what) == NONE, "an empty slot answers NONE to all", place);
        }
    }

    private void checkCapability(int place) {
        int kind = kind(place);
        int rights = state.slot(place, 2);
        int badge = state.slot(place, 3);
        check(isThere(1, place / 16 * 16), "a table with capabilities in it is there", place);
        check(kind >= 0 && kind <= 7, "kinds are 0 .. 7", place);
        check(rights >= 0 && rights <= 7, "rights are 0 .. 7", place);
        check(badge >= 0 && badge <= 255, "a badge is 0 .. 255", place);
        check(badge == 0 || kind == 3 || kind == 4, "a badge for a gate or a bell alone", place);
        check(kind != 0 || rights == 7, "untyped memory is never copied, so it has all rights", place);
        // Untyped memory may begin where other untyped memory does, but there is one capability for each.
        int due = kind == 0 ? 1 : countOf(kind, at(place));
        check(state.slot(place, 7) == due, "how many capabilities there are for that object", place);
        check(kind == 0 || at(place) % SIZES[kind] == 0, "the first unit is a multiple of the size", place);
    }

    private void checkParent(int place) {
        int children = 0;
        for (int other = 0; other < Picture.PLACES; other++) {
            if (!isEmpty(other) && parent(other) == place) {
                children++;
            }
        }
        check(state.slot(place, 4) == children, "its children are those whose parent it is", place);
        int parent = parent(place);
        if (parent == NONE) {
            return;
        }
        check(parent < Picture.PLACES && !isEmpty(parent), "a parent is a capability in a slot", place);
        int steps = 0;
        for (int p = parent; p != NONE && steps <= Picture.PLACES; p = parent(p)) {
            steps++;
        }
        check(steps <= Picture.PLACES, "nothing descends from itself", place);
        if (kind(parent) == 0) {
            checkMadeOutOf(place, parent);
        } else {
            checkCopyOf(place, parent);
        }
    }

    private void checkMadeOutOf(int place, int parent) {
        int end = at(place) + SIZES[kind(place)];
        check(at(place) >= at(parent), "an object lies in the untyped memory, behind its beginning", place);
        check(end <= state.slot(parent, 6), "an object lies before the free point", place);
    }

    private void checkCopyOf(int place, int parent) {
        int rights = state.slot(place, 2);
        int badge = state.slot(parent, 3);
        check(kind(place) == kind(parent) && at(place) == at(parent), "a copy is for the same object", place);
        check((rights & ~state.slot(parent, 2)) == 0, "a copy has no right that its parent lacks", place);
        check(badge == 0 || badge == state.slot(place, 3), "a badge once given stays in all descendants", place);
    }

    private void checkUse(int place) {
        int use = state.slot(place, 6);
        int kind = kind(place);
        if (kind == 0) {
            boolean unused = state.slot(place, 4) == 0;
            check(use >= at(place) && use <= 128, "the free point lies in memory", place);
            check(!unused || use == at(place), "the free point is the beginning when there are no children", place);
        } else {
            check(use == 0 || use == 1 && kind >= 6, "what 6 is 0 or 1, and 1 for leaves and frames alone", place);
        }
        for (int other = 0; other < Picture.PLACES && kind == 6; other++) {
            boolean same = kind(other) == 6 && at(other) == at(place);
            check(!same || state.slot(other, 6) == use, "a leaf is in a space whatever the capability", place);
        }
    }

    private void checkNoOverlap() {
        int[] owner = new int[Picture.PLACES];
        for (int place = 0; place < Picture.PLACES; place++) {
            int kind = kind(place);
            for (int i = 0; kind > 0 && i < SIZES[kind]; i++) {
                int unit = at(place) + i;
                int object = 1 + 8 * at(place) + kind;
                check(owner[unit] == 0 || owner[unit] == object, "no two objects share a unit", unit);
                owner[unit] = object;
            }
        }
    }

    private void checkThread(int t) {
        boolean there = state.thread(t, 0) != NONE;
        check(there == isThere(2, 8 * t), "a thread is there as long as some capability is for it", 8 * t);
        if (!there) {
            return;
        }
        checkRange(t, 0, 1, 5, "a state is 1 .. 5");
        checkRange(t, 1, 0, 3, "a priority is 0 .. 3");
        checkRange(t, 3, 0, 255, "a thread's badge is 0 .. 255");
        checkRange(t, 4, 0, 1, "a mark is 0 or 1");
        checkRange(t, 5, state.thread(t, 0) == 2 ? 1 : 0, 3, "a slice is at most 3, and not 0 when READY");
        int table = state.thread(t, 6);
        int space = state.thread(t, 7);
        check(table == NONE || isThere(1, table), "no thread has a table that is not there", 8 * t);
        check(space == NONE || isThere(5, space), "no thread has a space that is not there", 8 * t);
    }

    private void checkRange(int t, int what, int from, int to, String sentence) {
        int value = state.thread(t, what);
        check(value >= from && value <= to, sentence, 8 * t);
    }

    private void checkCurrent() {
        int highest = NONE;
        for (int t = 0; t < Picture.THREADS; t++) {
            if (state.thread(t, 0) == 2) {
                highest = Math.max(highest, state.thread(t, 1));
            }
        }
        int current = state.current();
        if (highest == NONE || current == NONE) {
            check(current == NONE && highest == NONE, "there is a current thread when one is READY", current);
            return;
        }
        boolean good = state.thread(current / 8, 0) == 2 && state.thread(current / 8, 1) == highest;
        check(good, "the current thread is READY, of the highest line", current);
    }

    private void checkPages() {
        int[] shown = new int[Picture.PLACES * 8];
        for (int t = 0; t < Picture.THREADS; t++) {
            boolean first = isFirstOfItsSpace(t);
            for (int at = 0; at < 16; at++) {
                int page = state.page(t, at);
                check(page == NONE || state.thread(t, 7) != NONE, "nothing is mapped without a space", 8 * t);
                if (page != NONE && first) {
                    shown[page]++;
                }
            }
        }
        for (int page = 0; page < shown.length; page++) {
            check(shown[page] <= mappedAs(page), "each page is a mapped capability of its own", page);
        }
    }

    private boolean isFirstOfItsSpace(int t) {
        for (int other = 0; other < t; other++) {
            if (state.thread(other, 7) == state.thread(t, 7)) {
                return false;
            }
        }
        return true;
    }

    private int mappedAs(int page) {
        int count = 0;
        for (int place = 0; place < Picture.PLACES; place++) {
            boolean mapped = kind(place) == 7 && state.slot(place, 6) == 1;
            if (mapped && at(place) + 128 * state.slot(place, 2) == page) {
                count++;
            }
        }
        return count;
    }
}
