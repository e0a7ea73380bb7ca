/** Promises 9 and 10: send and receive, with transfers. */
public final class GateTest {
    /** Gate 32 in slot 4; thread 40 in slot 5, READY behind thread 16 and with the same table. */
    private static final String TWO = """
        retype(2, 3, 0, 4) = 0
        retype(2, 2, 0, 5) = 0
        configure(5, 0, -1, 3) = 0
        run(5, true) = 0
        """;
    /** The same, and thread 48 in slot 6, READY behind both. */
    private static final String THREE = TWO + """
        retype(2, 2, 0, 6) = 0
        configure(6, 0, -1, 3) = 0
        run(6, true) = 0
        """;
    /** Table 64 in slot 6 becomes that of thread 40, with the gate (badge 9) in its slot 0. */
    private static final String OWN_TABLE = TWO + """
        retype(3, 1, 0, 6) = 0
        configure(5, 6, -1, 3) = 0
        copy(4, 112, 7, 9) = 0
        """;

    public static void main(String[] args) {
        Scripts s = new Scripts();
        words(s);
        orders(s);
        grants(s);
        laterGrants(s);
        refusals(s);
        s.end();
    }

    private static void words(Scripts s) {
        s.run("send to a thread that waits", TWO + """
            copy(4, 7, 7, 200) = 0
            receive(4, -1, true) = 10
            thread(16, 0) = 4
            current() = 40
            tick() = 40
            send(7, -77, -1, true) = 0
            thread(16, 0) = 2
            thread(16, 2) = -77
            thread(16, 3) = 200
            thread(16, 4) = 0
            thread(16, 5) = 3
            thread(40, 0) = 2
            thread(40, 2) = 0
            thread(40, 5) = 2
            current() = 40
            """);
        s.run("receive from a thread that waits", TWO + """
            copy(4, 7, 7, 200) = 0
            tick() = 16
            send(7, 2147483647, -1, true) = 10
            thread(16, 0) = 3
            thread(16, 2) = 0
            thread(16, 3) = 0
            thread(16, 5) = 2
            current() = 40
            receive(4, -1, true) = 0
            thread(16, 0) = 2
            thread(16, 5) = 3
            thread(16, 2) = 0
            thread(40, 0) = 2
            thread(40, 2) = 2147483647
            thread(40, 3) = 200
            thread(40, 4) = 0
            current() = 40
            """);
        s.run("the badge is that of the capability at the time of the call", TWO + """
            copy(4, 7, 7, 33) = 0
            send(7, 5, -1, true) = 10
            delete(7) = 0
            receive(4, -1, false) = 0
            thread(40, 2) = 5
            thread(40, 3) = 33
            """);
        s.run("a higher receiver is current at once", TWO + """
            receive(4, -1, true) = 10
            configure(5, 0, -1, 2) = 0
            current() = 40
            send(4, 1, -1, false) = 0
            current() = 16
            """);
    }

    private static void orders(Scripts s) {
        s.run("receivers in the order in which they came", THREE + """
            receive(4, -1, true) = 10
            receive(4, -1, true) = 10
            current() = 48
            send(4, 1, -1, true) = 0
            thread(16, 2) = 1
            thread(40, 0) = 4
            send(4, 2, -1, true) = 0
            thread(40, 2) = 2
            send(4, 3, -1, false) = 6
            thread(16, 2) = 1
            # they came to the end of the line in that order too
            run(6, false) = 0
            current() = 16
            run(1, false) = 0
            current() = 40
            """);
        s.run("senders in the order in which they came", THREE + """
            send(4, 1, -1, true) = 10
            send(4, 2, -1, true) = 10
            current() = 48
            receive(4, -1, true) = 0
            thread(48, 2) = 1
            thread(16, 0) = 2
            thread(40, 0) = 3
            receive(4, -1, false) = 0
            thread(48, 2) = 2
            receive(4, -1, false) = 6
            thread(48, 2) = 2
            """);
        s.run("a thread in the middle leaves", THREE + """
            retype(3, 2, 0, 7) = 0
            configure(7, 0, -1, 3) = 0
            run(7, true) = 0
            send(4, 1, -1, true) = 10
            send(4, 2, -1, true) = 10
            send(4, 3, -1, true) = 10
            current() = 64
            run(5, false) = 0
            receive(4, -1, true) = 0
            thread(64, 2) = 1
            receive(4, -1, true) = 0
            thread(64, 2) = 3
            receive(4, -1, false) = 6
            """);
        s.run("the first thread leaves", THREE + """
            send(4, 1, -1, true) = 10
            send(4, 2, -1, true) = 10
            run(1, false) = 0
            receive(4, -1, true) = 0
            thread(48, 2) = 2
            receive(4, -1, false) = 6
            """);
        s.run("a thread at the end leaves and comes again", THREE + """
            send(4, 1, -1, true) = 10
            send(4, 2, -1, true) = 10
            run(5, false) = 0
            run(5, true) = 0
            run(6, false) = 0
            current() = 40
            send(4, 3, -1, true) = 10
            current() = -1
            thread(16, 0) = 3
            thread(40, 0) = 3
            """);
        s.run("two gates", TWO + """
            retype(2, 3, 0, 7) = 0
            send(7, 1, -1, true) = 10
            receive(4, -1, false) = 6
            receive(7, -1, false) = 0
            """);
    }

    private static void grants(Scripts s) {
        s.run("a capability comes with the word", OWN_TABLE + """
            copy(5, 113, 6, 0) = 0
            receive(4, 8, true) = 10
            send(0, 77, 1, false) = 0
            thread(16, 4) = 1
            slot(0, 8, 0) = 2
            slot(0, 8, 1) = 40
            slot(0, 8, 2) = 6
            slot(0, 8, 3) = 0
            slot(0, 8, 5) = 1025
            slot(64, 1, 4) = 1
            slot(64, 1, 0) = 2
            slot(0, 8, 7) = 3
            """);
        s.run("with its badge, through tables on both sides", OWN_TABLE + """
            send(4, 77, 112, true) = 10
            receive(0, 5, false) = 0
            thread(40, 4) = 1
            slot(64, 5, 0) = 3
            slot(64, 5, 3) = 9
            slot(64, 5, 5) = 1024
            """);
        s.run("a mapped frame comes unmapped", TWO + """
            retype(3, 5, 0, 6) = 0
            retype(3, 6, 0, 7) = 0
            retype(3, 7, 0, 8) = 0
            map(7, 6, 0) = 0
            map(8, 6, 0) = 0
            send(4, 1, 8, true) = 10
            receive(4, 9, true) = 0
            thread(40, 4) = 1
            slot(0, 9, 0) = 7
            slot(0, 9, 6) = 0
            slot(0, 8, 6) = 1
            """);
        s.run("no transfer without GRANT of the sender", TWO + """
            copy(4, 7, 3, 0) = 0
            copy(4, 8, 6, 0) = 0
            receive(4, 9, true) = 10
            send(7, 1, 5, true) = 0
            thread(16, 4) = 0
            slot(0, 9, 0) = -1
            # GRANT is that of the sender's capability, not of the receiver's
            copy(4, 10, 1, 0) = 0
            send(8, 1, 5, true) = 10
            current() = 16
            receive(10, 9, true) = 0
            thread(16, 4) = 1
            slot(0, 9, 1) = 40
            """);
        s.run("untyped memory does not come", TWO + """
            receive(4, 9, true) = 10
            send(4, 6, 3, true) = 0
            thread(16, 2) = 6
            thread(16, 4) = 0
            slot(0, 9, 0) = -1
            """);
        s.run("no slot, an empty slot, a full slot", TWO + """
            receive(4, 9, true) = 10
            send(4, 6, -1, true) = 0
            thread(16, 4) = 0
            tick() = 40
            tick() = 40
            tick() = 16
            receive(4, 9, true) = 10
            send(4, 7, 12, true) = 0
            thread(16, 2) = 7
            thread(16, 4) = 0
            run(5, false) = 0
            run(5, true) = 0
            receive(4, 0, true) = 10
            send(4, 8, 5, true) = 0
            thread(16, 2) = 8
            thread(16, 4) = 0
            slot(0, 5, 4) = 0
            run(5, false) = 0
            run(5, true) = 0
            receive(4, -1, true) = 10
            send(4, 9, 5, true) = 0
            thread(16, 4) = 0
            run(5, false) = 0
            run(5, true) = 0
            receive(4, 272, true) = 10
            send(4, 10, 5, true) = 0
            thread(16, 2) = 10
            thread(16, 4) = 0
            run(5, false) = 0
            run(5, true) = 0
            receive(4, 9, true) = 10
            send(4, 11, 5, true) = 0
            thread(16, 4) = 1
            run(5, false) = 0
            run(5, true) = 0
            # the mark goes back to 0
            receive(4, 9, true) = 10
            send(4, 12, 5, true) = 0
            thread(16, 4) = 0
            thread(16, 2) = 12
            """);
    }

    private static void laterGrants(Scripts s) {
        s.run("what is at the sender's address is that of the time of the transfer", THREE + """
            send(4, 1, 8, true) = 10
            current() = 40
            copy(6, 8, 7, 0) = 0
            receive(4, 9, true) = 0
            thread(40, 4) = 1
            slot(0, 9, 1) = 48
            slot(0, 9, 5) = 8
            """);
        s.run("and it may be gone", TWO + """
            copy(5, 8, 7, 0) = 0
            send(4, 1, 8, true) = 10
            delete(8) = 0
            receive(4, 9, true) = 0
            thread(40, 2) = 1
            thread(40, 4) = 0
            """);
        s.run("the sender's table is that of the time of the transfer", OWN_TABLE + """
            copy(5, 114, 7, 0) = 0
            copy(1, 115, 7, 0) = 0
            copy(6, 116, 7, 0) = 0
            # in table 0, slot 2 is untyped memory; in table 64 it is thread 40
            send(4, 1, 2, true) = 10
            configure(3, 4, -1, 3) = 0
            receive(0, 9, true) = 0
            thread(40, 4) = 1
            slot(64, 9, 1) = 40
            """);
        s.run("the sender has no table any more", OWN_TABLE + """
            copy(1, 115, 7, 0) = 0
            send(4, 1, 5, true) = 10
            configure(3, -1, -1, 3) = 0
            receive(0, 9, true) = 0
            thread(40, 2) = 1
            thread(40, 4) = 0
            slot(64, 9, 0) = -1
            """);
        s.run("the receiver's address is looked up at the transfer too", OWN_TABLE + """
            copy(1, 115, 7, 0) = 0
            copy(6, 116, 7, 0) = 0
            receive(4, 9, true) = 10
            configure(3, 4, -1, 3) = 0
            send(0, 1, 3, true) = 0
            thread(16, 4) = 1
            slot(0, 9, 0) = -1
            slot(64, 9, 1) = 16
            """);
        s.run("GRANT is that of the time of the call", TWO + """
            copy(4, 7, 7, 0) = 0
            send(7, 1, 5, true) = 10
            delete(7) = 0
            receive(4, 9, true) = 0
            thread(40, 4) = 1
            slot(0, 9, 1) = 40
            """);
    }

    private static void refusals(Scripts s) {
        s.run("refused", TWO + """
            retype(3, 4, 0, 6) = 0
            copy(4, 7, 5, 0) = 0
            copy(4, 8, 6, 0) = 0
            send(5, 1, -1, true) = 1
            send(6, 1, -1, true) = 1
            send(9, 1, -1, true) = 1
            send(-1, 1, -1, true) = 1
            send(272, 1, -1, true) = 1
            receive(5, -1, true) = 1
            receive(6, -1, true) = 1
            receive(9, -1, true) = 1
            receive(-1, -1, true) = 1
            receive(272, -1, true) = 1
            send(7, 1, -1, true) = 2
            receive(8, -1, true) = 2
            send(7, 1, -1, false) = 2
            receive(8, -1, false) = 2
            send(8, 1, -1, false) = 6
            receive(7, -1, false) = 6
            current() = 16
            thread(16, 0) = 2
            """);
        s.run("with WRITE alone, with READ alone", TWO + """
            copy(4, 7, 2, 0) = 0
            copy(4, 8, 1, 0) = 0
            send(7, 3, -1, true) = 10
            receive(8, -1, false) = 0
            thread(40, 2) = 3
            """);
    }
}
