/** Terms: addresses, and when an address is no slot. */
public final class AddressTest {
    /** Thread 16 gets table 80, of which every slot has a capability for table 64, which is empty. */
    private static final String TABLES = """
        retype(3, 1, 0, 4) = 0
        retype(3, 1, 0, 5) = 0
        """ + filled() + """
        configure(1, 5, -1, 3) = 0
        """;

    private static String filled() {
        StringBuilder text = new StringBuilder();
        for (int a = 96; a <= 111; a++) {
            text.append("copy(4, ").append(a).append(", 7, 0) = 0\n");
        }
        return text.toString();
    }

    public static void main(String[] args) {
        Scripts s = new Scripts();
        insides(s);
        outsides(s);
        lookUps(s);
        s.end();
    }

    private static void insides(Scripts s) {
        s.each("0 .. 15 is that slot of this table", """
            copy(1, @, 7, 0) = 0
            slot(0, @, 1) = 16
            slot(0, @, 5) = 1
            delete(@) = 0
            slot(0, @, 1) = -1
            """, "4 5 6 7 8 9 10 11 12 13 14 15");
        s.each("0 .. 15 is that slot of this table: full from the beginning", """
            slot(0, @, 7) = 1
            delete(@) = 0
            slot(0, @, 7) = -1
            """, "0 1 2 3");
        for (int via = 0; via < 16; via++) {
            StringBuilder text = new StringBuilder(TABLES);
            for (int i = 0; i < 16; i++) {
                int a = 16 + 16 * via + i;
                text.append("slot(64, ").append(i).append(", 1) = -1\n");
                text.append("copy(").append(via).append(", ").append(a).append(", 7, 0) = 0\n");
                text.append("slot(64, ").append(i).append(", 1) = 64\n");
                text.append("delete(").append(a).append(") = 0\n");
                text.append("slot(64, ").append(i).append(", 1) = -1\n");
            }
            s.run("16 .. 271: a % 16 is the slot of the table in slot a / 16 - 1, by slot " + via, text.toString());
        }
    }

    private static void outsides(Scripts s) {
        s.each("no slot when it is another number: the first ones outside", TABLES + """
            copy(0, @, 7, 0) = 3
            move(0, @) = 3
            copy(@, 16, 7, 0) = 1
            move(@, 16) = 1
            delete(@) = 1
            revoke(@) = 1
            """, "-1 272 -2 273 287 288 -16 -2147483648 2147483647");
        s.run("no slot when it is another number: the last ones inside", TABLES + """
            copy(0, 271, 7, 0) = 0
            slot(64, 15, 0) = 1
            copy(271, 16, 7, 0) = 0
            slot(64, 0, 5) = 1039
            copy(0, 17, 7, 0) = 0
            delete(0) = 0
            copy(15, 0, 7, 0) = 0
            slot(80, 0, 5) = 1295
            """);
        s.each("no slot when it is another number: nor are the slots of the tables beside it meant", """
            retype(3, 1, 0, 4) = 0
            retype(3, 1, 0, 5) = 0
            retype(3, 1, 0, 6) = 0
            # table 80 has slots of both neighbours beside it, with table 64 and thread 16 in them
            copy(1, 80, 7, 0) = 0
            copy(1, 94, 7, 0) = 0
            copy(4, 95, 7, 0) = 0
            copy(4, 112, 7, 0) = 0
            copy(4, 96, 7, 0) = 0
            configure(1, 5, -1, 3) = 0
            copy(@, 15, 7, 0) = 1
            move(@, 15) = 1
            delete(@) = 1
            move(0, @) = 3
            """, "-1 -2 -16 272 273 286 287 288");
        String without = """
            retype(2, 2, 0, 4) = 0
            configure(4, -1, -1, 3) = 0
            run(4, true) = 0
            run(1, false) = 0
            current() = 32
            """;
        s.each("no slot when the thread has no table", without + """
            copy(@, 5, 7, 0) = 1
            delete(@) = 1
            revoke(@) = 1
            move(@, 5) = 1
            run(@, true) = 1
            """, "0 1 2 4 5 15 16 17 31 80 271 -1 272");
        s.each("no slot when there is no capability in slot a / 16 - 1", """
            delete(@) = 1
            copy(1, @, 7, 0) = 3
            move(1, @) = 3
            retype(2, 3, 0, @) = 3
            """, "80 81 95 96 111 255 256 270 271");
        s.each("no slot when the capability in slot a / 16 - 1 is for no table", Kinds.ALL + """
            delete(@) = 1
            copy(1, @, 7, 0) = 3
            move(1, @) = 3
            retype(3, 3, 0, @) = 3
            """, "32 33 47 48 63 64 79 80 95 96 111 112 127 128 143 144 159");
        s.run("no slot any more when the table's capability has gone", """
            retype(3, 1, 0, 4) = 0
            copy(1, 80, 7, 0) = 0
            delete(80) = 0
            delete(4) = 0
            copy(1, 80, 7, 0) = 3
            """);
    }

    private static void lookUps(Scripts s) {
        s.run("looked up in the table of the current thread", """
            retype(3, 1, 0, 4) = 0
            copy(4, 84, 7, 0) = 0
            copy(1, 85, 7, 0) = 0
            configure(1, 4, -1, 3) = 0
            # addresses count in table 64 from here on
            delete(0) = 1
            copy(5, 0, 7, 0) = 0
            slot(64, 0, 1) = 16
            slot(64, 0, 5) = 1029
            # 80 .. 95 is table 64 again, by its own slot 4
            slot(64, 4, 1) = 64
            copy(85, 95, 7, 0) = 0
            slot(64, 15, 5) = 1029
            # 16 .. 31 is nothing, as slot 0 has a thread
            delete(16) = 1
            """);
        s.run("looked up one table deep", """
            retype(3, 1, 0, 4) = 0
            retype(3, 1, 0, 80) = 0
            # slot 0 of table 64 has table 80, but 80 + 16 is no way to it
            slot(64, 0, 1) = 80
            copy(1, 96, 7, 0) = 3
            copy(1, 81, 7, 0) = 0
            slot(64, 1, 1) = 16
            slot(80, 1, 1) = -1
            """);
        s.run("looked up by a capability without rights", """
            retype(3, 1, 0, 4) = 0
            copy(4, 5, 0, 0) = 0
            copy(1, 96, 7, 0) = 0
            slot(64, 0, 1) = 16
            delete(96) = 0
            """);
    }
}
