import java.util.ArrayList;
import java.util.Arrays;
import java.util.List;

/** A kernel with a capability for each kind, and addresses of all sorts in the table of its thread. */
final class Kinds {
    /** Gate 32 in slot 4, bell 34 in 5, space 36 in 6, leaf 40 in 7, frame 48 in 8; slots 9 .. 15 are empty. */
    static final String ALL = """
        retype(2, 3, 0, 4) = 0
        retype(2, 4, 0, 5) = 0
        retype(2, 5, 0, 6) = 0
        retype(2, 6, 0, 7) = 0
        retype(2, 7, 0, 8) = 0
        """;

    static final String UNTYPED = "2 3 18 19";
    static final String TABLE = "0 16";
    static final String THREAD = "1 17";
    static final String GATE = "4 20";
    static final String BELL = "5 21";
    static final String SPACE = "6 22";
    static final String LEAF = "7 23";
    static final String FRAME = "8 24";
    static final String EMPTY = "9 15 25 31";
    /** But for -1, which some calls take for none: numbers outside, and slots behind what is no table. */
    static final String NO_SLOT = "-2 272 -2147483648 2147483647 32 47 48 80 96 112 128 159 160 271";

    private static final String[] FULL = {UNTYPED, TABLE, THREAD, GATE, BELL, SPACE, LEAF, FRAME};

    private Kinds() {
    }

    /** All addresses at which there is no capability for one of these kinds, but for -1. */
    static String allBut(String... kinds) {
        List<String> others = new ArrayList<>(Arrays.asList(FULL));
        others.removeAll(Arrays.asList(kinds));
        others.add(EMPTY);
        others.add(NO_SLOT);
        return String.join(" ", others);
    }

    /** All addresses at which nothing can come into a slot. */
    static String occupied() {
        return String.join(" ", FULL) + " -1 " + NO_SLOT;
    }
}
