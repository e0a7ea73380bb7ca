/** Promises 13, 14 and 21: map, unmap, page. The order of the reasons is in RefusalTest. */
public final class SpaceTest {
    /** Space 64 in slot 4, that of thread 16; leaves 68 and 72 in 5 and 6; frames 80 and 88 in 7 and 8. */
    private static final String SPACE = """
        retype(3, 5, 0, 4) = 0
        retype(3, 6, 0, 5) = 0
        retype(3, 6, 0, 6) = 0
        retype(3, 7, 0, 7) = 0
        retype(3, 7, 0, 8) = 0
        configure(1, 0, 4, 3) = 0
        """;
    /** Leaf 68 is in entry 0, and frame 80 is mapped at 0. */
    private static final String MAPPED = SPACE + """
        map(5, 4, 0) = 0
        map(7, 4, 0) = 0
        """;

    public static void main(String[] args) {
        Scripts s = new Scripts();
        entries(s);
        maps(s);
        capabilityRefusals(s);
        rangeRefusals(s);
        leafRefusals(s);
        frameRefusals(s);
        unmaps(s);
        unmapRefusals(s);
        pages(s);
        noPages(s);
        s.end();
    }

    /** At each page: its leaf is in entry at / 4, its frame in entry at % 4, and nothing is anywhere else. */
    private static void entries(Scripts s) {
        for (int at = 0; at < 16; at++) {
            StringBuilder text = new StringBuilder(SPACE);
            // The number within its four does not count for a leaf.
            text.append("map(5, 4, ").append(at / 4 * 4 + (at + 2) % 4).append(") = 0\n");
            text.append("map(7, 4, ").append(at).append(") = 0\n");
            for (int other = 0; other < 16; other++) {
                int due = other == at ? 976 : -1;
                text.append("page(16, ").append(other).append(") = ").append(due).append("\n");
            }
            s.run("map: entry at % 4 of the leaf in entry at / 4 of the space, at " + at, text.toString());
        }
        s.run("map: a space has entries 0 .. 3, all can be full", SPACE + """
            retype(2, 6, 0, 9) = 0
            retype(2, 6, 0, 10) = 0
            retype(2, 6, 0, 11) = 0
            map(5, 4, 0) = 0
            map(6, 4, 4) = 0
            map(9, 4, 8) = 0
            map(10, 4, 12) = 0
            map(11, 4, 0) = 7
            map(11, 4, 15) = 7
            unmap(10) = 0
            map(11, 4, 15) = 0
            """);
        s.run("map: a leaf has entries 0 .. 3, all can be full", MAPPED + """
            copy(7, 9, 6, 0) = 0
            copy(7, 10, 5, 0) = 0
            copy(7, 11, 4, 0) = 0
            map(9, 4, 1) = 0
            map(10, 4, 2) = 0
            map(11, 4, 3) = 0
            page(16, 0) = 976
            page(16, 1) = 848
            page(16, 2) = 720
            page(16, 3) = 592
            map(8, 4, 0) = 7
            map(8, 4, 3) = 7
            map(8, 4, 4) = 7
            unmap(11) = 0
            map(8, 4, 3) = 0
            page(16, 3) = 984
            """);
    }

    private static void maps(Scripts s) {
        s.run("map: a leaf by any of its capabilities, a frame by one alone", SPACE + """
            copy(5, 9, 0, 0) = 0
            copy(7, 10, 0, 0) = 0
            map(9, 4, 0) = 0
            slot(0, 5, 6) = 1
            slot(0, 9, 6) = 1
            map(10, 4, 0) = 0
            slot(0, 7, 6) = 0
            slot(0, 10, 6) = 1
            """);
        s.run("map: one frame at two pages, by two capabilities", MAPPED + """
            copy(7, 9, 1, 0) = 0
            map(9, 4, 3) = 0
            page(16, 0) = 976
            page(16, 3) = 208
            """);
        s.run("map: into the space of the capability at s, not into that of the thread", SPACE + """
            retype(2, 5, 0, 9) = 0
            map(5, 9, 0) = 0
            map(7, 4, 0) = 7
            map(7, 9, 0) = 0
            page(16, 0) = -1
            map(6, 4, 0) = 0
            configure(1, 0, 9, 3) = 0
            page(16, 0) = 976
            """);
        s.run("map: through a table, with a space without rights", SPACE + """
            copy(4, 9, 0, 0) = 0
            map(21, 25, 15) = 0
            map(23, 25, 15) = 0
            page(16, 15) = 976
            """);
    }

    private static void capabilityRefusals(Scripts s) {
        s.each("map refused: NO CAPABILITY (1) for LEAF or FRAME at c", Kinds.ALL + """
            map(@, 6, 0) = 1
            """, Kinds.allBut(Kinds.LEAF, Kinds.FRAME) + " -1");
        s.each("map refused: NO CAPABILITY (1) for LEAF or FRAME at c: a leaf", Kinds.ALL + """
            map(@, 6, 0) = 0
            """, Kinds.LEAF);
        s.each("map refused: NO CAPABILITY (1) for LEAF or FRAME at c: a frame", Kinds.ALL + """
            map(7, 6, 0) = 0
            map(@, 6, 0) = 0
            """, Kinds.FRAME);
        s.each("map refused: NO CAPABILITY (1) for SPACE at s", Kinds.ALL + """
            map(7, @, 0) = 1
            map(8, @, 0) = 1
            """, Kinds.allBut(Kinds.SPACE) + " -1");
        s.each("map refused: NO CAPABILITY (1) for SPACE at s: there is one", Kinds.ALL + """
            map(7, @, 0) = 0
            map(8, @, 0) = 0
            """, Kinds.SPACE);
    }

    private static void rangeRefusals(Scripts s) {
        String both = SPACE + """
            map(5, 4, 0) = 0
            map(6, 4, 12) = 0
            """;
        s.each("map refused: RANGE (4): at is not 0 .. 15, of a leaf", SPACE + """
            map(5, 4, @) = 4
            """, "-1 16 17 -4 19 32 -2147483648 2147483647");
        s.each("map refused: RANGE (4): at is not 0 .. 15, of a frame", both + """
            map(7, 4, @) = 4
            """, "-1 16 17 -4 19 32 -2147483648 2147483647");
        s.each("map refused: RANGE (4): at is not 0 .. 15, of a leaf: the first and the last", SPACE + """
            map(5, 4, @) = 0
            slot(0, 5, 6) = 1
            """, "0 15");
        s.each("map refused: RANGE (4): at is not 0 .. 15, of a frame: the first and the last", both + """
            map(7, 4, @) = 0
            page(16, @) = 976
            """, "0 15");
    }

    private static void leafRefusals(Scripts s) {
        s.each("map refused: MAPPED (7): that leaf is in a space already", MAPPED + """
            copy(5, 9, 7, 0) = 0
            map(5, 4, @) = 7
            map(9, 4, @) = 7
            """, "0 3 4 8 15");
        s.run("map refused: MAPPED (7): that leaf is in another space already", MAPPED + """
            retype(2, 5, 0, 9) = 0
            map(5, 9, 0) = 7
            unmap(5) = 0
            map(5, 9, 0) = 0
            """);
        s.each("map refused: MAPPED (7): the entry of the space is not empty", MAPPED + """
            map(6, 4, @) = 7
            """, "0 1 2 3");
        s.each("map refused: MAPPED (7): the entry of the space is empty", MAPPED + """
            map(6, 4, @) = 0
            """, "4 7 8 11 12 15");
    }

    private static void frameRefusals(Scripts s) {
        s.each("map refused: MAPPED (7): that capability for a frame is mapped already", MAPPED + """
            map(6, 4, 4) = 0
            map(7, 4, @) = 7
            """, "0 1 3 4 7");
        s.run("map refused: MAPPED (7): that capability is mapped, though its leaf is in no space", MAPPED + """
            unmap(5) = 0
            map(6, 4, 0) = 0
            map(7, 4, 0) = 7
            map(8, 4, 0) = 0
            """);
        s.each("map refused: MAPPED (7): there is no leaf in that entry of the space", MAPPED + """
            map(8, 4, @) = 7
            """, "4 5 7 8 11 12 15");
        s.run("map refused: MAPPED (7): there is no leaf in that entry of the space any more", SPACE + """
            map(5, 4, 0) = 0
            unmap(5) = 0
            map(7, 4, 0) = 7
            """);
        s.run("map refused: MAPPED (7): the entry of the leaf is not empty", MAPPED + """
            map(8, 4, 0) = 7
            copy(7, 9, 7, 0) = 0
            map(9, 4, 0) = 7
            map(8, 4, 1) = 0
            map(9, 4, 1) = 7
            """);
        s.run("map refused: MAPPED (7): the entry of the leaf is not empty, wherever the leaf is", MAPPED + """
            unmap(5) = 0
            map(5, 4, 12) = 0
            map(8, 4, 12) = 7
            map(8, 4, 13) = 0
            """);
    }

    private static void unmaps(Scripts s) {
        s.run("unmap: a frame is mapped no more, others stay", MAPPED + """
            map(8, 4, 1) = 0
            copy(7, 9, 1, 0) = 0
            map(9, 4, 2) = 0
            unmap(7) = 0
            page(16, 0) = -1
            page(16, 1) = 984
            page(16, 2) = 208
            slot(0, 7, 6) = 0
            map(7, 4, 3) = 0
            page(16, 3) = 976
            """);
        s.run("unmap: a leaf leaves its space, by any of its capabilities", MAPPED + """
            copy(5, 9, 0, 0) = 0
            unmap(9) = 0
            page(16, 0) = -1
            slot(0, 5, 6) = 0
            slot(0, 9, 6) = 0
            map(6, 4, 0) = 0
            """);
        s.run("unmap: capabilities that are mapped in a leaf stay mapped in it", MAPPED + """
            unmap(5) = 0
            slot(0, 7, 6) = 1
            map(6, 4, 0) = 0
            page(16, 0) = -1
            map(5, 4, 8) = 0
            page(16, 8) = 976
            """);
        s.run("unmap: a frame while its leaf is in no space", MAPPED + """
            unmap(5) = 0
            unmap(7) = 0
            slot(0, 7, 6) = 0
            map(5, 4, 0) = 0
            page(16, 0) = -1
            """);
    }

    private static void unmapRefusals(Scripts s) {
        s.each("unmap refused: NO CAPABILITY (1) for LEAF or FRAME at c", Kinds.ALL + """
            unmap(@) = 1
            """, Kinds.allBut(Kinds.LEAF, Kinds.FRAME) + " -1");
        s.each("unmap refused: NO CAPABILITY (1) for LEAF or FRAME at c: there is one", Kinds.ALL + """
            map(7, 6, 0) = 0
            map(8, 6, 0) = 0
            unmap(@) = 0
            """, Kinds.LEAF + " " + Kinds.FRAME);
        s.each("unmap refused: MAPPED (7): it is not mapped", Kinds.ALL + """
            unmap(@) = 7
            """, Kinds.LEAF + " " + Kinds.FRAME);
        s.each("unmap refused: MAPPED (7): it is not mapped any more", MAPPED + """
            unmap(@) = 0
            unmap(@) = 7
            """, "5 7");
        s.run("unmap refused: MAPPED (7): it is not mapped, but another capability for the frame is", MAPPED + """
            copy(7, 9, 7, 0) = 0
            unmap(9) = 7
            page(16, 0) = 976
            """);
        s.run("unmap refused: MAPPED (7): the leaf is not, though a frame is mapped in it", MAPPED + """
            unmap(5) = 0
            unmap(5) = 7
            slot(0, 7, 6) = 1
            """);
    }

    private static void pages(Scripts s) {
        for (int rights = 0; rights < 8; rights++) {
            s.run("page: the first unit of the frame plus 128 times the rights, " + rights, SPACE
                + "copy(8, 9, " + rights + ", 0) = 0\n"
                + "map(5, 4, 4) = 0\n"
                + "map(9, 4, 5) = 0\n"
                + "page(16, 5) = " + (88 + 128 * rights) + "\n");
        }
        s.run("page: in the space of thread t, not in that of the current one", MAPPED + """
            retype(2, 5, 0, 9) = 0
            retype(2, 2, 0, 10) = 0
            configure(10, -1, 9, 0) = 0
            map(6, 9, 4) = 0
            map(8, 9, 4) = 0
            page(16, 0) = 976
            page(16, 4) = -1
            page(40, 0) = -1
            page(40, 4) = 984
            """);
        s.run("page: in the space of thread t, current or not", MAPPED + """
            retype(2, 2, 0, 9) = 0
            configure(9, -1, 4, 0) = 0
            page(32, 0) = 976
            page(16, 0) = 976
            configure(1, 0, -1, 3) = 0
            page(16, 0) = -1
            page(32, 0) = 976
            """);
    }

    private static void noPages(Scripts s) {
        s.each("page: NONE when there is no such thread", MAPPED + """
            retype(2, 2, 0, 9) = 0
            configure(9, -1, 4, 0) = 0
            page(32, 0) = 976
            page(@, 0) = -1
            """, "0 8 15 17 23 24 31 33 39 40 64 80 120 127 128 144 -1 -8 -16 -2147483648 2147483647");
        s.run("page: NONE when there is no such thread any more", MAPPED + """
            retype(2, 2, 0, 9) = 0
            configure(9, -1, 4, 0) = 0
            delete(9) = 0
            page(32, 0) = -1
            """);
        s.run("page: NONE when it has no space", MAPPED + """
            retype(2, 2, 0, 9) = 0
            page(32, 0) = -1
            configure(1, 0, -1, 3) = 0
            page(16, 0) = -1
            """);
        s.each("page: NONE when at is not 0 .. 15", MAPPED + """
            map(6, 4, 12) = 0
            map(8, 4, 15) = 0
            page(16, 0) = 976
            page(16, 15) = 984
            page(16, @) = -1
            """, "-1 16 17 -4 -16 31 -2147483648 2147483647");
        s.each("page: NONE when there is no such leaf", MAPPED + """
            page(16, @) = -1
            """, "4 7 8 11 12 15");
        s.each("page: NONE when there is nothing in its entry", MAPPED + """
            page(16, @) = -1
            """, "1 2 3");
    }
}
