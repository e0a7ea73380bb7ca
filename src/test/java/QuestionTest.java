/** Promises 19 and 20: slot and thread. */
public final class QuestionTest {
    /** All kinds, the leaf in the space and the frame mapped. */
    private static final String MAPPED = Kinds.ALL + """
        map(7, 6, 0) = 0
        map(8, 6, 0) = 0
        """;

    public static void main(String[] args) {
        Scripts s = new Scripts();
        slots(s);
        parents(s);
        counts(s);
        uses(s);
        noSlots(s);
        threads(s);
        states(s);
        noThreads(s);
        s.end();
    }

    private static void slots(Scripts s) {
        int[] kinds = {1, 2, 0, 0, 3, 4, 5, 6, 7};
        int[] units = {0, 16, 32, 64, 32, 34, 36, 40, 48};
        StringBuilder text = new StringBuilder(Kinds.ALL);
        for (int i = 0; i < kinds.length; i++) {
            text.append("slot(0, ").append(i).append(", 0) = ").append(kinds[i]).append("\n");
            text.append("slot(0, ").append(i).append(", 1) = ").append(units[i]).append("\n");
        }
        s.run("slot: 0 the kind of the object, 1 that object", text.toString());
        s.run("slot: 2 the rights, 3 the badge", Kinds.ALL + """
            copy(4, 9, 5, 255) = 0
            slot(0, 9, 2) = 5
            slot(0, 9, 3) = 255
            copy(5, 10, 0, 1) = 0
            slot(0, 10, 2) = 0
            slot(0, 10, 3) = 1
            slot(0, 4, 2) = 7
            slot(0, 4, 3) = 0
            """);
    }

    private static void parents(Scripts s) {
        s.run("slot: 5 where its parent is, 16 times the first unit of the table plus the slot", """
            retype(3, 1, 0, 4) = 0
            retype(3, 3, 0, 95) = 0
            slot(64, 15, 5) = 3
            copy(95, 5, 7, 1) = 0
            slot(0, 5, 5) = 1039
            move(95, 80) = 0
            slot(0, 5, 5) = 1024
            move(5, 15) = 0
            copy(15, 81, 7, 0) = 0
            slot(64, 1, 5) = 15
            """);
        s.run("slot: 5 where its parent is, in the last slot of memory", """
            retype(3, 1, 0, 4) = 0
            retype(3, 1, 0, 5) = 0
            retype(3, 1, 0, 6) = 0
            retype(3, 1, 0, 7) = 0
            copy(1, 143, 7, 0) = 0
            copy(143, 8, 7, 0) = 0
            slot(0, 8, 5) = 1807
            """);
        s.each("slot: 5 NONE if it has none", """
            slot(0, @, 5) = -1
            """, "0 1 2 3");
        s.run("slot: 5 is 0 for a child of what is in slot 0 of table 0", """
            copy(0, 4, 7, 0) = 0
            slot(0, 4, 5) = 0
            """);
    }

    private static void counts(Scripts s) {
        s.run("slot: 4 the number of its children, not of its descendants", """
            retype(2, 3, 0, 4) = 0
            slot(0, 4, 4) = 0
            copy(4, 5, 7, 0) = 0
            copy(5, 6, 7, 0) = 0
            copy(5, 7, 7, 0) = 0
            slot(0, 4, 4) = 1
            slot(0, 5, 4) = 2
            slot(0, 2, 4) = 1
            delete(5) = 0
            slot(0, 4, 4) = 2
            """);
        s.run("slot: 4 and 7 count in all tables", """
            retype(3, 1, 0, 4) = 0
            copy(1, 80, 7, 0) = 0
            copy(1, 95, 7, 0) = 0
            slot(0, 1, 4) = 2
            slot(0, 1, 7) = 3
            slot(64, 15, 7) = 3
            """);
        s.run("slot: 7 how many capabilities there are for that object", """
            slot(0, 2, 7) = 1
            retype(2, 0, 5, 4) = 0
            # another object of the same units
            slot(0, 2, 7) = 1
            slot(0, 4, 7) = 1
            retype(4, 3, 0, 5) = 0
            slot(0, 5, 1) = 32
            slot(0, 4, 7) = 1
            slot(0, 5, 7) = 1
            copy(5, 6, 1, 0) = 0
            copy(6, 7, 1, 0) = 0
            slot(0, 5, 7) = 3
            slot(0, 7, 7) = 3
            delete(6) = 0
            slot(0, 7, 7) = 2
            """);
    }

    private static void uses(Scripts s) {
        s.run("slot: 6 for untyped memory the free point", Kinds.ALL + """
            slot(0, 2, 6) = 56
            slot(0, 3, 6) = 64
            retype(3, 0, 6, 9) = 0
            slot(0, 3, 6) = 128
            slot(0, 9, 6) = 64
            """);
        s.run("slot: 6 for a leaf or a frame 1 if it is mapped", MAPPED + """
            slot(0, 7, 6) = 1
            slot(0, 8, 6) = 1
            """);
        s.run("slot: 6 for a leaf or a frame otherwise 0", MAPPED + """
            copy(8, 9, 7, 0) = 0
            slot(0, 9, 6) = 0
            unmap(8) = 0
            slot(0, 8, 6) = 0
            slot(0, 7, 6) = 1
            unmap(7) = 0
            slot(0, 7, 6) = 0
            """);
        s.run("slot: 6 for a leaf: in a space, whatever is in it", MAPPED + """
            unmap(7) = 0
            slot(0, 7, 6) = 0
            slot(0, 8, 6) = 1
            """);
        s.each("slot: 6 for other kinds 0", MAPPED + """
            bind(0, 5) = 0
            signal(5) = 0
            configure(1, 0, 6, 3) = 0
            slot(0, @, 6) = 0
            """, "0 1 4 5 6");
    }

    private static void noSlots(Scripts s) {
        // Table 64 and table 112 are there, with capabilities in their first and last slots; table 80 is not.
        String tables = """
            retype(3, 1, 0, 4) = 0
            retype(3, 1, 0, 5) = 0
            retype(3, 1, 0, 6) = 0
            retype(3, 1, 0, 7) = 0
            delete(5) = 0
            copy(1, 80, 7, 0) = 0
            copy(1, 95, 7, 0) = 0
            copy(1, 128, 7, 0) = 0
            copy(1, 143, 7, 0) = 0
            """;
        s.run("slot: NONE when there is no such table: these are there", tables + """
            slot(0, 0, 1) = 0
            slot(64, 0, 1) = 16
            slot(64, 15, 1) = 16
            slot(112, 0, 1) = 16
            slot(112, 15, 1) = 16
            slot(96, 0, 1) = -1
            """);
        s.each("slot: NONE when there is no such table", tables + """
            slot(@, 0, 1) = -1
            slot(@, 1, 1) = -1
            slot(@, 15, 1) = -1
            """, "1 8 15 16 17 32 48 63 65 72 79 80 111 113 127 128 144 -1 -15 -16 -17 -2147483648 2147483647");
        s.each("slot: NONE when there is no such slot", tables + """
            slot(0, @, 1) = -1
            slot(64, @, 1) = -1
            slot(112, @, 1) = -1
            """, "-1 16 17 31 32 48 -16 -64 -2147483648 2147483647");
        s.each("slot: NONE when the slot is empty", tables + """
            slot(0, 5, @) = -1
            slot(64, 1, @) = -1
            """, "0 1 2 3 4 5 6 7");
        s.each("slot: NONE when what is not 0 .. 7", tables + """
            slot(0, 1, @) = -1
            slot(0, 3, @) = -1
            """, "-1 8 9 16 -2147483648 2147483647");
        s.run("slot: NONE when what is not 0 .. 7: the first and the last", tables + """
            slot(0, 1, 0) = 2
            slot(0, 1, 7) = 5
            """);
        s.run("slot: NONE when there is no such table any more, nor when there is a new one", """
            retype(3, 1, 0, 4) = 0
            copy(1, 80, 7, 0) = 0
            slot(64, 0, 0) = 2
            delete(4) = 0
            slot(64, 0, 0) = -1
            retype(3, 1, 0, 4) = 0
            slot(64, 0, 0) = -1
            """);
    }

    private static void threads(Scripts s) {
        s.run("thread: 1 priority, 2 word, 3 badge, 4 mark, 5 slice, 6 its table, 7 its space", Kinds.ALL + """
            retype(3, 1, 0, 9) = 0
            retype(3, 2, 0, 10) = 0
            configure(10, 9, 6, 2) = 0
            copy(4, 160, 7, 0) = 0
            copy(4, 11, 7, 44) = 0
            run(10, true) = 0
            send(11, 555, 1, true) = 10
            current() = 80
            tick() = 80
            receive(0, 15, true) = 0
            thread(80, 0) = 2
            thread(80, 1) = 2
            thread(80, 2) = 555
            thread(80, 3) = 44
            thread(80, 4) = 1
            thread(80, 5) = 2
            thread(80, 6) = 64
            thread(80, 7) = 36
            """);
        s.run("thread: 6 and 7 NONE if none", Kinds.ALL + """
            thread(16, 6) = 0
            thread(16, 7) = -1
            configure(1, -1, 6, 3) = 0
            thread(16, 6) = -1
            thread(16, 7) = 36
            """);
    }

    private static void states(Scripts s) {
        String second = Kinds.ALL + """
            retype(3, 2, 0, 9) = 0
            configure(9, 0, -1, 3) = 0
            """;
        s.run("thread: 0, 1 STOPPED and 2 READY", second + """
            thread(64, 0) = 1
            run(9, true) = 0
            thread(64, 0) = 2
            """);
        s.run("thread: 0, 3 SENDING", second + """
            send(4, 1, -1, true) = 10
            thread(16, 0) = 3
            """);
        s.run("thread: 0, 4 RECEIVING", second + """
            receive(4, -1, true) = 10
            thread(16, 0) = 4
            """);
        s.run("thread: 0, 5 LISTENING", second + """
            listen(5, true) = 10
            thread(16, 0) = 5
            """);
    }

    private static void noThreads(Scripts s) {
        String last = """
            retype(3, 1, 0, 4) = 0
            retype(3, 1, 0, 5) = 0
            retype(3, 1, 0, 6) = 0
            retype(3, 2, 0, 7) = 0
            retype(3, 2, 0, 8) = 0
            delete(7) = 0
            """;
        s.each("thread: NONE when there is no such thread", last + """
            thread(16, 0) = 2
            thread(120, 0) = 1
            thread(@, 0) = -1
            thread(@, 5) = -1
            """, "0 8 15 17 20 23 24 32 64 112 119 121 127 128 136 144 -1 -7 -8 -16 -2147483648 2147483647");
        s.each("thread: NONE when what is not 0 .. 7", """
            thread(16, @) = -1
            """, "-1 8 9 16 -2147483648 2147483647");
        s.run("thread: NONE when what is not 0 .. 7: the first and the last", Kinds.ALL + """
            configure(1, 0, 6, 3) = 0
            thread(16, 0) = 2
            thread(16, 7) = 36
            """);
        s.run("thread: NONE when there is no such thread any more", """
            retype(2, 2, 0, 4) = 0
            thread(32, 0) = 1
            delete(4) = 0
            thread(32, 0) = -1
            """);
    }
}
