/** Terms: the transfer and its mark, on both ways: to a thread that waits, and from one that waits. */
public final class TransferTest {
    /** All kinds; thread 64 in slot 10, READY behind thread 16 and with the same table; slot 9 is empty. */
    private static final String TWO = Kinds.ALL + """
        retype(3, 2, 0, 10) = 0
        configure(10, 0, -1, 3) = 0
        run(10, true) = 0
        """;
    /** Thread 16 has got a capability in slot 11, so that its mark is 1, and is current. */
    private static final String MARKED = TWO + """
        receive(4, 11, true) = 10
        send(4, 1, 1, true) = 0
        thread(16, 4) = 1
        tick() = 64
        tick() = 64
        tick() = 16
        """;
    private static final String TO_WAITING = MARKED + """
        receive(4, <d>, true) = 10
        send(4, 5, <c>, true) = 0
        """;
    private static final String FROM_WAITING = MARKED + """
        tick() = 16
        tick() = 16
        tick() = 64
        send(4, 5, <c>, true) = 10
        receive(4, <d>, true) = 0
        """;
    /** As TWO, but thread 64 has table 80 (slot 11), with the gate (badge 9) in its slot 0. */
    private static final String OWN_TABLE = TWO + """
        retype(3, 1, 0, 11) = 0
        configure(10, 11, -1, 3) = 0
        copy(4, 192, 7, 9) = 0
        """;

    private static final String NOT_MARKED = """
        thread(16, 2) = 5
        thread(16, 3) = 0
        thread(16, 4) = 0
        thread(16, 0) = 2
        thread(64, 0) = 2
        slot(0, 9, 0) = -1
        """;

    public static void main(String[] args) {
        Scripts s = new Scripts();
        words(s);
        offers(s, "to a thread that waits", TO_WAITING);
        offers(s, "from a thread that waits", FROM_WAITING);
        grants(s);
        children(s);
        sendersLookUp(s);
        receiversLookUp(s);
        s.end();
    }

    private static void words(Scripts s) {
        s.each("word and badge of B become w and b: to a thread that waits", TWO + """
            copy(4, 11, 7, 255) = 0
            receive(4, -1, true) = 10
            send(11, @, -1, true) = 0
            thread(16, 2) = @
            thread(16, 3) = 255
            thread(64, 2) = 0
            thread(64, 3) = 0
            """, "0 1 -1 2147483647 -2147483648");
        s.each("word and badge of B become w and b: from a thread that waits", TWO + """
            copy(4, 11, 7, 1) = 0
            send(11, @, -1, true) = 10
            receive(4, -1, true) = 0
            thread(64, 2) = @
            thread(64, 3) = 1
            thread(16, 2) = 0
            thread(16, 3) = 0
            """, "0 1 -1 2147483647 -2147483648");
        s.run("word and badge of B become w and b: the badge becomes 0 again", TWO + """
            copy(4, 11, 7, 200) = 0
            receive(4, -1, true) = 10
            send(11, 6, -1, true) = 0
            thread(16, 3) = 200
            send(4, 0, -1, true) = 10
            receive(11, -1, true) = 0
            thread(16, 2) = 0
            thread(16, 3) = 0
            """);
    }

    private static void offers(Scripts s, String way, String script) {
        String c = script.replace("<d>", "9").replace("<c>", "@");
        s.each("a new child comes into that slot, the mark of B becomes 1: " + way, c + """
            thread(16, 2) = 5
            thread(16, 4) = 1
            slot(0, 9, 2) = 7
            slot(0, 9, 4) = 0
            slot(0, @, 4) = 1
            slot(0, 9, 5) = @
            """, "0 4 5 6 7 8 10 11");
        s.each("c is not a slot in A's table: " + way, c + NOT_MARKED, "-1 " + Kinds.NO_SLOT);
        s.each("c is a slot without a capability: " + way, c + NOT_MARKED, "9 12 15 25 28 31");
        s.each("c is a slot with a capability for untyped memory: " + way, c + NOT_MARKED, Kinds.UNTYPED);
        String d = script.replace("<c>", "1").replace("<d>", "@");
        s.each("d is an empty slot in B's table: " + way, d + """
            thread(16, 4) = 1
            slot(0, @, 1) = 16
            slot(0, @, 5) = 1
            """, "9 12 13 14 15");
        s.run("d is an empty slot in B's table, through a table: " + way, d.replace("@", "31") + """
            thread(16, 4) = 1
            slot(0, 15, 1) = 16
            """);
        s.each("d is no slot in B's table: " + way, d + NOT_MARKED, "-1 " + Kinds.NO_SLOT);
        s.each("d is a slot that is not empty: " + way, d + NOT_MARKED + """
            slot(0, 1, 4) = 1
            """, "0 1 2 3 4 5 6 7 8 10 11 16 17 26 27");
    }

    private static void grants(Scripts s) {
        for (int rights = 0; rights < 8; rights++) {
            if ((rights & 2) == 0) {
                continue;
            }
            int mark = rights / 4;
            int comes = mark == 1 ? 16 : -1;
            s.run("if A may GRANT, with rights " + rights + ": to a thread that waits", MARKED
                + "copy(4, 12, " + rights + ", 0) = 0\n"
                + "receive(4, 9, true) = 10\n"
                + "send(12, 5, 1, true) = 0\n"
                + "thread(16, 2) = 5\n"
                + "thread(16, 4) = " + mark + "\n"
                + "slot(0, 9, 1) = " + comes + "\n");
            s.run("if A may GRANT, with rights " + rights + ": from a thread that waits", TWO
                + "copy(4, 12, " + rights + ", 0) = 0\n"
                + "send(12, 5, 1, true) = 10\n"
                + "receive(4, 9, true) = 0\n"
                + "thread(64, 2) = 5\n"
                + "thread(64, 4) = " + mark + "\n"
                + "slot(0, 9, 1) = " + comes + "\n");
        }
        s.run("if A may GRANT: what B's capability for the gate has does not count", TWO + """
            copy(4, 11, 1, 0) = 0
            receive(11, 9, true) = 10
            send(4, 5, 1, true) = 0
            thread(16, 4) = 1
            slot(0, 9, 1) = 16
            """);
        s.run("if A may GRANT: nor what the offered capability has", TWO + """
            copy(1, 11, 0, 0) = 0
            receive(4, 9, true) = 10
            send(4, 5, 11, true) = 0
            thread(16, 4) = 1
            slot(0, 9, 2) = 0
            """);
        s.run("if A may GRANT: as its capability said at the time of the call", TWO + """
            copy(4, 11, 7, 33) = 0
            send(11, 5, 1, true) = 10
            delete(11) = 0
            receive(4, 9, true) = 0
            thread(64, 3) = 33
            thread(64, 4) = 1
            slot(0, 9, 1) = 16
            """);
        s.run("SENDING with all this: a capability that comes to address g later does not count", TWO + """
            copy(4, 11, 3, 33) = 0
            send(11, 5, 1, true) = 10
            delete(11) = 0
            copy(4, 11, 7, 44) = 0
            receive(4, 9, true) = 0
            thread(64, 2) = 5
            thread(64, 3) = 33
            thread(64, 4) = 0
            slot(0, 9, 0) = -1
            """);
    }

    private static void children(Scripts s) {
        s.run("for the same object, with the same rights and badge", TWO + """
            copy(5, 11, 5, 77) = 0
            receive(4, 9, true) = 10
            send(4, 5, 11, true) = 0
            slot(0, 9, 0) = 4
            slot(0, 9, 1) = 34
            slot(0, 9, 2) = 5
            slot(0, 9, 3) = 77
            slot(0, 9, 4) = 0
            slot(0, 9, 5) = 11
            slot(0, 9, 7) = 3
            slot(0, 11, 4) = 1
            slot(0, 5, 4) = 1
            """);
        s.run("not mapped", TWO + """
            map(7, 6, 0) = 0
            map(8, 6, 0) = 0
            receive(4, 9, true) = 10
            send(4, 5, 8, true) = 0
            slot(0, 9, 0) = 7
            slot(0, 9, 6) = 0
            slot(0, 8, 6) = 1
            unmap(9) = 7
            """);
        s.run("from table to table", OWN_TABLE + """
            copy(1, 193, 6, 0) = 0
            receive(4, 9, true) = 10
            send(0, 77, 1, false) = 0
            thread(16, 3) = 9
            thread(16, 4) = 1
            slot(0, 9, 1) = 16
            slot(0, 9, 2) = 6
            slot(0, 9, 5) = 1281
            slot(80, 1, 4) = 1
            """);
        s.run("from table to table, the other way", OWN_TABLE + """
            send(4, 77, 192, true) = 10
            receive(0, 15, false) = 0
            thread(64, 4) = 1
            slot(80, 15, 0) = 3
            slot(80, 15, 3) = 9
            slot(80, 15, 5) = 1280
            """);
    }

    private static void sendersLookUp(Scripts s) {
        s.run("c as looked up now: what has come there since", TWO + """
            send(4, 1, 11, true) = 10
            copy(5, 11, 7, 0) = 0
            receive(4, 9, true) = 0
            thread(64, 4) = 1
            slot(0, 9, 1) = 34
            slot(0, 9, 5) = 11
            """);
        s.run("c as looked up now: it may be gone", TWO + """
            copy(5, 11, 7, 0) = 0
            send(4, 1, 11, true) = 10
            delete(11) = 0
            receive(4, 9, true) = 0
            thread(64, 2) = 1
            thread(64, 4) = 0
            slot(0, 9, 1) = -1
            """);
        s.run("c as looked up now: in another table", OWN_TABLE + """
            # in table 0 slot 2 is untyped memory, in table 80 it is thread 64
            copy(10, 194, 7, 0) = 0
            copy(1, 195, 7, 0) = 0
            copy(11, 196, 7, 0) = 0
            send(4, 1, 2, true) = 10
            configure(3, 4, -1, 3) = 0
            receive(0, 9, true) = 0
            thread(64, 4) = 1
            slot(80, 9, 1) = 64
            """);
        s.run("c as looked up now: A has no table any more", OWN_TABLE + """
            copy(1, 195, 7, 0) = 0
            send(4, 1, 5, true) = 10
            configure(3, -1, -1, 3) = 0
            receive(0, 9, true) = 0
            thread(64, 2) = 1
            thread(64, 4) = 0
            slot(80, 9, 0) = -1
            """);
        s.run("c as looked up now: A's table is destroyed", OWN_TABLE + """
            tick() = 16
            tick() = 16
            tick() = 64
            send(0, 5, 0, true) = 10
            delete(11) = 0
            thread(64, 0) = 3
            thread(64, 6) = -1
            receive(4, 9, true) = 0
            thread(16, 2) = 5
            thread(16, 3) = 9
            thread(16, 4) = 0
            slot(0, 9, 0) = -1
            thread(64, 0) = 2
            """);
    }

    private static void receiversLookUp(Scripts s) {
        s.run("d as looked up now: in another table", OWN_TABLE + """
            copy(1, 195, 7, 0) = 0
            copy(11, 196, 7, 0) = 0
            receive(4, 9, true) = 10
            configure(3, 4, -1, 3) = 0
            send(0, 1, 3, true) = 0
            thread(16, 4) = 1
            slot(0, 9, 0) = -1
            slot(80, 9, 1) = 16
            """);
        s.run("d as looked up now: full since", TWO + """
            receive(4, 9, true) = 10
            copy(5, 9, 7, 0) = 0
            send(4, 1, 1, true) = 0
            thread(16, 2) = 1
            thread(16, 4) = 0
            slot(0, 9, 1) = 34
            """);
        s.run("d as looked up now: empty since", TWO + """
            receive(4, 8, true) = 10
            delete(8) = 0
            send(4, 1, 1, true) = 0
            thread(16, 4) = 1
            slot(0, 8, 1) = 16
            """);
        s.run("d as looked up now: B has no table any more", OWN_TABLE + """
            copy(1, 195, 7, 0) = 0
            receive(4, 9, true) = 10
            configure(3, -1, -1, 3) = 0
            send(0, 1, 3, true) = 0
            thread(16, 2) = 1
            thread(16, 4) = 0
            slot(0, 9, 0) = -1
            slot(80, 9, 0) = -1
            """);
        s.run("d is the address that the receiver gave last", TWO + """
            receive(4, 12, false) = 6
            receive(4, 9, true) = 10
            send(4, 1, 1, true) = 0
            slot(0, 9, 1) = 16
            slot(0, 12, 0) = -1
            """);
    }
}
