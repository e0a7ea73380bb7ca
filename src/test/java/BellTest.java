/** Promises 11, 12, 15 and 16: signal, listen, bind, interrupt. */
public final class BellTest {
    /** Bell 32 in slot 4; thread 40 in slot 5, READY behind thread 16 and with the same table. */
    private static final String TWO = """
        retype(2, 4, 0, 4) = 0
        retype(2, 2, 0, 5) = 0
        configure(5, 0, -1, 3) = 0
        run(5, true) = 0
        """;

    public static void main(String[] args) {
        Scripts s = new Scripts();
        signals(s);
        waits(s);
        interrupts(s);
        s.end();
    }

    private static void signals(Scripts s) {
        s.run("the bell keeps the bits of all numbers", """
            retype(2, 4, 0, 4) = 0
            copy(4, 5, 7, 5) = 0
            copy(4, 6, 7, 6) = 0
            copy(4, 7, 7, 255) = 0
            signal(5) = 0
            signal(6) = 0
            signal(5) = 0
            listen(5, false) = 0
            thread(16, 2) = 7
            thread(16, 3) = 0
            thread(16, 4) = 0
            listen(5, false) = 6
            thread(16, 2) = 7
            signal(4) = 0
            listen(4, true) = 0
            thread(16, 2) = 256
            signal(7) = 0
            signal(4) = 0
            listen(4, true) = 0
            thread(16, 2) = 511
            thread(16, 0) = 2
            """);
        s.run("badge and mark become 0", TWO + """
            retype(2, 3, 0, 6) = 0
            copy(6, 7, 7, 9) = 0
            receive(6, 8, true) = 10
            send(7, 3, 5, true) = 0
            thread(16, 3) = 9
            thread(16, 4) = 1
            run(5, false) = 0
            current() = 16
            signal(4) = 0
            listen(4, true) = 0
            thread(16, 2) = 256
            thread(16, 3) = 0
            thread(16, 4) = 0
            """);
        s.run("refused", """
            retype(2, 4, 0, 4) = 0
            retype(2, 3, 0, 5) = 0
            copy(4, 6, 5, 0) = 0
            copy(4, 7, 6, 0) = 0
            signal(5) = 1
            signal(8) = 1
            signal(-1) = 1
            signal(272) = 1
            listen(5, true) = 1
            listen(8, true) = 1
            listen(-1, true) = 1
            listen(272, true) = 1
            signal(6) = 2
            listen(7, true) = 2
            listen(7, false) = 2
            listen(6, false) = 6
            signal(7) = 0
            listen(7, true) = 2
            listen(6, true) = 0
            """);
    }

    private static void waits(Scripts s) {
        s.run("who listens hears at once, the bell keeps nothing", TWO + """
            copy(4, 6, 2, 12) = 0
            retype(2, 3, 0, 7) = 0
            copy(7, 8, 7, 9) = 0
            receive(7, 9, true) = 10
            send(8, 3, 5, true) = 0
            thread(16, 4) = 1
            tick() = 40
            tick() = 40
            tick() = 16
            tick() = 16
            listen(4, true) = 10
            thread(16, 0) = 5
            thread(16, 2) = 3
            thread(16, 5) = 2
            current() = 40
            signal(6) = 0
            thread(16, 0) = 2
            thread(16, 2) = 12
            thread(16, 3) = 0
            thread(16, 4) = 0
            thread(16, 5) = 3
            current() = 40
            listen(4, false) = 6
            """);
        s.run("one ring wakes the first alone", TWO + """
            retype(2, 2, 0, 6) = 0
            configure(6, 0, -1, 3) = 0
            run(6, true) = 0
            listen(4, true) = 10
            listen(4, true) = 10
            current() = 48
            signal(4) = 0
            thread(16, 0) = 2
            thread(40, 0) = 5
            signal(4) = 0
            thread(40, 0) = 2
            thread(40, 2) = 256
            signal(4) = 0
            listen(4, false) = 0
            """);
    }

    private static void interrupts(Scripts s) {
        s.run("lines ring with 1, 2, 4, 8", """
            retype(2, 4, 0, 4) = 0
            bind(0, 4) = 0
            bind(1, 4) = 0
            bind(2, 4) = 0
            bind(3, 4) = 0
            interrupt(0) = 1
            listen(4, false) = 0
            thread(16, 2) = 1
            interrupt(1) = 1
            listen(4, false) = 0
            thread(16, 2) = 2
            interrupt(2) = 1
            listen(4, false) = 0
            thread(16, 2) = 4
            interrupt(3) = 1
            interrupt(0) = 1
            interrupt(3) = 1
            listen(4, false) = 0
            thread(16, 2) = 9
            """);
        s.run("no such line", """
            retype(2, 4, 0, 4) = 0
            bind(0, 4) = 0
            bind(3, 4) = 0
            interrupt(-1) = 0
            interrupt(4) = 0
            interrupt(1) = 0
            interrupt(2147483647) = 0
            interrupt(-2147483648) = 0
            listen(4, false) = 6
            """);
        s.run("bound to one bell alone, and to none", """
            retype(2, 4, 0, 4) = 0
            retype(2, 4, 0, 5) = 0
            bind(1, 4) = 0
            bind(1, 5) = 0
            interrupt(1) = 1
            listen(4, false) = 6
            listen(5, false) = 0
            bind(1, -1) = 0
            interrupt(1) = 0
            listen(5, false) = 6
            bind(1, -1) = 0
            """);
        s.run("bind: refused, and what was bound stays", """
            retype(2, 4, 0, 4) = 0
            bind(0, 4) = 0
            bind(-1, 4) = 4
            bind(4, 4) = 4
            bind(4, -1) = 4
            bind(4, 1) = 4
            bind(0, 1) = 1
            bind(0, 5) = 1
            bind(0, -2) = 1
            bind(0, 272) = 1
            interrupt(0) = 1
            """);
        s.run("bind asks for no right, and the line outlives the capability", """
            retype(2, 4, 0, 4) = 0
            copy(4, 5, 0, 77) = 0
            bind(2, 5) = 0
            delete(5) = 0
            interrupt(2) = 1
            listen(4, false) = 0
            thread(16, 2) = 4
            """);
        s.run("an interrupt comes without a current thread", """
            retype(2, 4, 0, 4) = 0
            bind(3, 4) = 0
            listen(4, true) = 10
            current() = -1
            interrupt(2) = 0
            current() = -1
            interrupt(3) = 1
            current() = 16
            thread(16, 2) = 8
            thread(16, 3) = 0
            run(1, false) = 0
            interrupt(3) = 1
            current() = -1
            """);
    }
}
