/** Promises 11, 12, 15 and 16: signal, listen, bind, interrupt. The order of the reasons is in RefusalTest. */
public final class BellTest {
    /** All kinds; threads 64 and 72 in slots 10 and 11, READY behind thread 16, with its table. */
    private static final String THREE = Kinds.ALL + """
        retype(3, 2, 0, 10) = 0
        retype(3, 2, 0, 11) = 0
        configure(10, 0, -1, 3) = 0
        configure(11, 0, -1, 3) = 0
        run(10, true) = 0
        run(11, true) = 0
        """;
    /** The same, and thread 16 has the word 3, the badge 9 and the mark 1, and is current. */
    private static final String MARKED = THREE + """
        copy(4, 12, 7, 9) = 0
        receive(4, 13, true) = 10
        send(12, 3, 1, true) = 0
        run(10, false) = 0
        run(11, false) = 0
        current() = 16
        thread(16, 2) = 3
        thread(16, 3) = 9
        thread(16, 4) = 1
        run(10, true) = 0
        run(11, true) = 0
        """;

    public static void main(String[] args) {
        Scripts s = new Scripts();
        signals(s);
        rings(s);
        listens(s);
        refusals(s);
        rights(s);
        binds(s);
        bindRefusals(s);
        interrupts(s);
        s.end();
    }

    private static void signals(Scripts s) {
        s.each("signal: rung with its badge", Kinds.ALL + """
            copy(5, 9, 7, @) = 0
            signal(9) = 0
            listen(5, false) = 0
            thread(16, 2) = @
            """, "1 2 127 128 254 255");
        s.run("signal: rung with 256 if its badge is 0", Kinds.ALL + """
            signal(5) = 0
            listen(5, false) = 0
            thread(16, 2) = 256
            copy(5, 9, 7, 0) = 0
            signal(9) = 0
            listen(5, false) = 0
            thread(16, 2) = 256
            """);
        s.run("signal: the badge is that of the capability, not of who listens", Kinds.ALL + """
            copy(5, 9, 2, 6) = 0
            copy(5, 10, 1, 5) = 0
            signal(9) = 0
            listen(10, false) = 0
            thread(16, 2) = 6
            """);
    }

    private static void rings(Scripts s) {
        s.run("ring: if a thread is LISTENING, its word becomes the number, its badge and mark 0", MARKED + """
            copy(5, 14, 2, 12) = 0
            tick() = 16
            listen(5, true) = 10
            thread(16, 2) = 3
            thread(16, 3) = 9
            thread(16, 4) = 1
            thread(16, 5) = 2
            current() = 64
            signal(14) = 0
            thread(16, 0) = 2
            thread(16, 2) = 12
            thread(16, 3) = 0
            thread(16, 4) = 0
            thread(16, 5) = 3
            # who rings goes on, and the bell keeps nothing
            current() = 64
            thread(64, 2) = 0
            listen(5, false) = 6
            """);
        s.run("ring: the first of them, and it alone", THREE + """
            listen(5, true) = 10
            listen(5, true) = 10
            current() = 72
            signal(5) = 0
            thread(16, 0) = 2
            thread(64, 0) = 5
            thread(64, 2) = 0
            signal(5) = 0
            thread(64, 0) = 2
            thread(64, 2) = 256
            # they came to the end of the line in that order
            run(11, false) = 0
            current() = 16
            run(1, false) = 0
            current() = 64
            """);
        s.run("ring otherwise: the bits of the word and of the number together", Kinds.ALL + """
            copy(5, 9, 7, 5) = 0
            copy(5, 10, 7, 6) = 0
            copy(5, 11, 7, 255) = 0
            signal(9) = 0
            signal(10) = 0
            signal(9) = 0
            listen(5, false) = 0
            thread(16, 2) = 7
            signal(11) = 0
            signal(5) = 0
            signal(5) = 0
            listen(5, false) = 0
            thread(16, 2) = 511
            """);
        s.run("ring otherwise: a thread at another bell is not LISTENING at it", THREE + """
            retype(3, 4, 0, 12) = 0
            listen(12, true) = 10
            signal(5) = 0
            thread(16, 0) = 5
            listen(5, false) = 0
            thread(64, 2) = 256
            """);
    }

    private static void listens(Scripts s) {
        s.each("listen: if the bell's word is not 0, the thread gets it, its badge and mark are 0", MARKED + """
            signal(5) = 0
            listen(5, @) = 0
            thread(16, 0) = 2
            thread(16, 2) = 256
            thread(16, 3) = 0
            thread(16, 4) = 0
            current() = 16
            # the bell's word is 0
            listen(5, false) = 6
            """, "true false");
        s.run("listen otherwise: 6 BUSY when block is false", MARKED + """
            listen(5, false) = 6
            thread(16, 0) = 2
            thread(16, 2) = 3
            """);
        s.run("listen otherwise: LISTENING when block is true, and the answer is 10", MARKED + """
            listen(5, true) = 10
            thread(16, 0) = 5
            thread(16, 2) = 3
            current() = 64
            """);
    }

    private static void refusals(Scripts s) {
        s.each("signal refused: NO CAPABILITY (1) for BELL", Kinds.ALL + """
            signal(@) = 1
            """, Kinds.allBut(Kinds.BELL) + " -1");
        s.each("signal refused: NO CAPABILITY (1) for BELL: there is one", Kinds.ALL + """
            signal(@) = 0
            """, Kinds.BELL);
        s.each("listen refused before: NO CAPABILITY (1) for BELL", Kinds.ALL + """
            listen(@, true) = 1
            listen(@, false) = 1
            """, Kinds.allBut(Kinds.BELL) + " -1");
        s.each("listen refused before: NO CAPABILITY (1) for BELL: there is one", Kinds.ALL + """
            listen(@, true) = 10
            """, Kinds.BELL);
    }

    private static void rights(Scripts s) {
        for (int rights = 0; rights < 8; rights++) {
            boolean read = rights % 2 == 1;
            boolean write = rights / 2 % 2 == 1;
            String copied = Kinds.ALL + "copy(5, 9, " + rights + ", 7) = 0\n";
            s.run("signal refused: RIGHT (2): it lacks WRITE, rights " + rights, copied
                + "signal(9) = " + (write ? 0 : 2) + "\n"
                + "listen(5, false) = " + (write ? 0 : 6) + "\n");
            s.run("listen refused before: RIGHT (2): it lacks READ, rights " + rights, copied
                + "listen(9, false) = " + (read ? 6 : 2) + "\n"
                + "signal(5) = 0\n"
                + "listen(9, true) = " + (read ? 0 : 2) + "\n");
        }
    }

    private static void binds(Scripts s) {
        s.run("bind: to the bell, and to no other", Kinds.ALL + """
            retype(3, 4, 0, 9) = 0
            bind(1, 5) = 0
            bind(1, 9) = 0
            interrupt(1) = 1
            listen(5, false) = 6
            listen(9, false) = 0
            """);
        s.run("bind: to none if b is -1", Kinds.ALL + """
            bind(1, 5) = 0
            bind(2, 5) = 0
            bind(1, -1) = 0
            interrupt(1) = 0
            interrupt(2) = 1
            bind(1, -1) = 0
            bind(0, -1) = 0
            bind(3, -1) = 0
            """);
        s.run("bind: two lines to one bell", Kinds.ALL + """
            bind(0, 5) = 0
            bind(3, 5) = 0
            interrupt(3) = 1
            interrupt(0) = 1
            listen(5, false) = 0
            thread(16, 2) = 9
            """);
        s.run("bind: no right is needed, and the line outlives the capability", Kinds.ALL + """
            copy(5, 9, 0, 77) = 0
            bind(2, 9) = 0
            delete(9) = 0
            interrupt(2) = 1
            listen(5, false) = 0
            thread(16, 2) = 4
            """);
    }

    private static void bindRefusals(Scripts s) {
        s.each("bind refused: RANGE (4): line is not 0 .. 3", Kinds.ALL + """
            bind(0, 5) = 0
            bind(3, 5) = 0
            bind(@, 5) = 4
            bind(@, -1) = 4
            """, "-1 4 5 -4 -2147483648 2147483647");
        s.each("bind refused: RANGE (4): line is not 0 .. 3: all inside", Kinds.ALL + """
            bind(@, 5) = 0
            interrupt(@) = 1
            """, "0 1 2 3");
        s.each("bind refused: NO CAPABILITY (1) for BELL at b", Kinds.ALL + """
            bind(0, 5) = 0
            bind(0, @) = 1
            bind(3, @) = 1
            interrupt(0) = 1
            interrupt(3) = 0
            """, Kinds.allBut(Kinds.BELL));
        s.run("bind refused: NO CAPABILITY (1) for BELL at b, unless that is -1", Kinds.ALL + """
            bind(0, 5) = 0
            bind(0, -2) = 1
            interrupt(0) = 1
            bind(0, -1) = 0
            interrupt(0) = 0
            """);
        s.each("bind refused: NO CAPABILITY (1) for BELL at b: there is one", Kinds.ALL + """
            bind(3, @) = 0
            interrupt(3) = 1
            """, Kinds.BELL);
    }

    private static void interrupts(Scripts s) {
        int[] numbers = {1, 2, 4, 8};
        for (int line = 0; line < 4; line++) {
            s.run("interrupt: rung with 2 to the power line; answers 1, line " + line, Kinds.ALL
                + "bind(" + line + ", 5) = 0\n"
                + "interrupt(" + line + ") = 1\n"
                + "listen(5, false) = 0\n"
                + "thread(16, 2) = " + numbers[line] + "\n");
            s.run("interrupt: a bound line does not bind the others, line " + line, Kinds.ALL
                + "bind(" + line + ", 5) = 0\n"
                + "interrupt(" + (line + 1) % 4 + ") = 0\n"
                + "interrupt(" + (line + 2) % 4 + ") = 0\n"
                + "interrupt(" + (line + 3) % 4 + ") = 0\n");
        }
        s.each("interrupt: 0, changing nothing, when the line is not 0 .. 3", Kinds.ALL + """
            bind(0, 5) = 0
            bind(1, 5) = 0
            bind(2, 5) = 0
            bind(3, 5) = 0
            interrupt(@) = 0
            listen(5, false) = 6
            """, "-1 4 5 -4 32 -2147483648 2147483647");
        s.each("interrupt: 0, changing nothing, when the line is not bound", Kinds.ALL + """
            interrupt(@) = 0
            bind(@, 5) = 0
            bind(@, -1) = 0
            interrupt(@) = 0
            listen(5, false) = 6
            """, "0 1 2 3");
        s.run("interrupt: who listens hears it, its badge and mark are 0", MARKED + """
            bind(3, 5) = 0
            listen(5, true) = 10
            interrupt(3) = 1
            thread(16, 0) = 2
            thread(16, 2) = 8
            thread(16, 3) = 0
            thread(16, 4) = 0
            thread(16, 5) = 3
            listen(5, false) = 6
            """);
        s.run("interrupt: it may come without a current thread", Kinds.ALL + """
            bind(3, 5) = 0
            listen(5, true) = 10
            current() = -1
            interrupt(2) = 0
            current() = -1
            interrupt(3) = 1
            current() = 16
            thread(16, 2) = 8
            run(1, false) = 0
            interrupt(3) = 1
            current() = -1
            """);
    }
}
