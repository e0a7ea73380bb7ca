/** Terms: the units of memory, the sizes of the kinds, the slots of a table, the 512 calls. */
public final class MemoryTest {
    /** By kind, from TABLE on: the bits of the untyped memory that it fills. */
    private static final int[] BITS = {4, 3, 1, 1, 2, 2, 3};

    public static void main(String[] args) {
        Scripts s = new Scripts();
        units(s);
        firstAndLastSlot(s);
        sizes(s);
        slots(s);
        manyCalls(s);
        s.end();
    }

    private static void units(Scripts s) {
        s.run("MEMORY has 128 units, 0 .. 127: the last table", """
            retype(3, 1, 0, 4) = 0
            retype(3, 1, 0, 5) = 0
            retype(3, 1, 0, 6) = 0
            retype(3, 1, 0, 7) = 0
            slot(0, 7, 1) = 112
            slot(0, 3, 6) = 128
            retype(3, 1, 0, 8) = 5
            # its slot 15 is at unit 127
            copy(1, 143, 7, 0) = 0
            slot(112, 15, 1) = 16
            slot(112, 15, 5) = 1
            slot(128, 0, 0) = -1
            """);
        s.run("MEMORY has 128 units, 0 .. 127: the last thread", """
            retype(3, 0, 5, 4) = 0
            retype(3, 0, 4, 5) = 0
            retype(3, 2, 0, 6) = 0
            retype(3, 2, 0, 7) = 0
            slot(0, 7, 1) = 120
            thread(120, 0) = 1
            thread(128, 0) = -1
            retype(3, 2, 0, 8) = 5
            configure(7, 0, -1, 3) = 0
            run(7, true) = 0
            run(1, false) = 0
            current() = 120
            """);
        s.run("MEMORY has 128 units, 0 .. 127: the last gate", """
            retype(3, 0, 5, 4) = 0
            retype(3, 0, 4, 5) = 0
            retype(3, 0, 3, 6) = 0
            retype(3, 0, 2, 7) = 0
            retype(3, 3, 0, 8) = 0
            slot(0, 8, 1) = 124
            retype(3, 3, 0, 9) = 0
            slot(0, 9, 1) = 126
            slot(0, 3, 6) = 128
            retype(3, 3, 0, 10) = 5
            """);
        s.run("an object is named by its first unit", """
            retype(2, 2, 0, 4) = 0
            thread(32, 0) = 1
            thread(31, 0) = -1
            thread(33, 0) = -1
            thread(39, 0) = -1
            thread(40, 0) = -1
            """);
    }

    /** Table 0 is moved out of slot 0; table 112 is in slot 7, so that its slot 15 is at address 143. */
    private static void firstAndLastSlot(Scripts s) {
        String ends = """
            retype(3, 1, 0, 4) = 0
            retype(3, 1, 0, 5) = 0
            retype(3, 1, 0, 6) = 0
            retype(3, 1, 0, 7) = 0
            slot(0, 7, 1) = 112
            move(0, 15) = 0
            """;
        s.each("MEMORY has 128 units, 0 .. 127: capabilities in the slots at units 0 and 127 count", ends + """
            copy(1, @, 7, 0) = 0
            slot(0, 1, 4) = 1
            slot(0, 1, 7) = 2
            copy(@, 8, 7, 0) = 0
            slot(0, 8, 7) = 3
            delete(@) = 0
            slot(0, 8, 5) = 1
            slot(0, 8, 7) = 2
            """, "0 143");
        s.each("MEMORY has 128 units, 0 .. 127: capabilities in the slots at units 0 and 127 go with revoke", ends + """
            copy(1, 8, 7, 0) = 0
            copy(8, @, 7, 0) = 0
            revoke(1) = 0
            slot(0, 1, 7) = 1
            delete(@) = 1
            """, "0 143");
        s.run("MEMORY has 128 units, 0 .. 127: a child in the slot at unit 0 gets another parent", ends + """
            copy(1, 8, 7, 0) = 0
            copy(8, 0, 7, 0) = 0
            delete(8) = 0
            slot(0, 0, 5) = 1
            """);
        s.run("MEMORY has 128 units, 0 .. 127: a child in the slot at unit 127 gets another parent", ends + """
            copy(1, 8, 7, 0) = 0
            copy(8, 143, 7, 0) = 0
            delete(8) = 0
            slot(112, 15, 5) = 1
            delete(7) = 0
            slot(112, 15, 5) = -1
            slot(0, 1, 7) = 1
            """);
    }

    private static void sizes(Scripts s) {
        for (int kind = 1; kind <= 7; kind++) {
            int bits = BITS[kind - 1];
            int end = 64 + (1 << bits);
            String numbers = "kind " + kind + " has " + (1 << bits) + " units";
            s.run("kinds and sizes, as large as its memory: " + numbers,
                "retype(3, 0, " + bits + ", 4) = 0\n"
                + "retype(4, " + kind + ", 0, 5) = 0\n"
                + "slot(0, 5, 1) = 64\n"
                + "slot(0, 4, 6) = " + end + "\n"
                + "retype(4, 3, 0, 6) = 5\n");
            s.run("kinds and sizes, two side by side: " + numbers,
                "retype(3, " + kind + ", 0, 4) = 0\n"
                + "retype(3, " + kind + ", 0, 5) = 0\n"
                + "slot(0, 5, 1) = " + end + "\n");
            if (bits > 1) {
                s.run("kinds and sizes, larger than its memory: " + numbers,
                    "retype(3, 0, " + (bits - 1) + ", 4) = 0\n"
                    + "retype(4, " + kind + ", 0, 5) = 5\n");
            }
        }
        for (int bits = 1; bits <= 6; bits++) {
            s.run("UNTYPED 2 to the power of its bits, as large as its memory: " + bits,
                "retype(3, 0, " + bits + ", 4) = 0\n"
                + "slot(0, 3, 6) = " + (64 + (1 << bits)) + "\n"
                + "retype(4, 0, " + bits + ", 5) = 0\n"
                + "slot(0, 5, 1) = 64\n"
                + "slot(0, 4, 6) = " + (64 + (1 << bits)) + "\n"
                + "retype(4, 0, 1, 6) = 5\n");
            if (bits > 1) {
                s.run("UNTYPED 2 to the power of its bits, larger than its memory: " + bits,
                    "retype(3, 0, " + (bits - 1) + ", 4) = 0\n"
                    + "retype(4, 0, " + bits + ", 5) = 5\n");
            }
        }
    }

    private static void slots(Scripts s) {
        StringBuilder full = new StringBuilder();
        for (int i = 4; i <= 15; i++) {
            full.append("copy(1, ").append(i).append(", 7, 0) = 0\n");
        }
        s.each("a table has SLOTS 0 .. 15, each empty or with one capability: none is left", full + """
            retype(2, 3, 0, @) = 3
            copy(1, @, 7, 0) = 3
            move(1, @) = 3
            """, "0 1 2 3 4 5 6 7 8 9 10 11 12 13 14 15 16 -1");
        s.run("a table has SLOTS 0 .. 15: room for twelve more", full + """
            slot(0, 1, 4) = 12
            slot(0, 1, 7) = 13
            slot(0, 4, 1) = 16
            slot(0, 15, 1) = 16
            slot(0, 16, 1) = -1
            delete(15) = 0
            copy(1, 15, 7, 0) = 0
            """);
    }

    private static void manyCalls(Scripts s) {
        s.run("at most 512 calls: the last one counts like the first", "tick() = 16\n".repeat(511) + """
            thread(16, 5) = 2
            """);
        s.run("at most 512 calls: memory is used again and again", """
            retype(2, 1, 0, 4) = 0
            delete(4) = 0
            """.repeat(255) + """
            retype(2, 1, 0, 4) = 0
            slot(0, 4, 1) = 32
            """);
        s.run("at most 512 calls: a thread waits and is woken again and again", """
            retype(2, 4, 0, 4) = 0
            bind(0, 4) = 0
            """ + """
            listen(4, true) = 10
            interrupt(0) = 1
            """.repeat(254) + """
            thread(16, 0) = 2
            current() = 16
            """);
    }
}
