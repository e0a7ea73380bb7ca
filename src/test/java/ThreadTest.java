/** Promises 7, 8, 17 and 18: configure, run, tick, current. */
public final class ThreadTest {
    /** All kinds; thread 64 in slot 9, STOPPED. */
    private static final String STOPPED = Kinds.ALL + """
        retype(3, 2, 0, 9) = 0
        """;
    /** The same, but it is READY behind thread 16 and has the same table and priority. */
    private static final String TWO = STOPPED + """
        configure(9, 0, -1, 3) = 0
        run(9, true) = 0
        """;
    /** Threads 32, 40 and 48 in slots 4, 5 and 6, all with table 0 and STOPPED. */
    private static final String FOUR = """
        retype(2, 2, 0, 4) = 0
        retype(2, 2, 0, 5) = 0
        retype(2, 2, 0, 6) = 0
        """;

    public static void main(String[] args) {
        Scripts s = new Scripts();
        configures(s);
        priorities(s);
        configureRefusals(s);
        configurePriorityRefusals(s);
        runs(s);
        runRefusals(s);
        ticks(s);
        slices(s);
        currents(s);
        s.end();
    }

    private static void configures(Scripts s) {
        s.each("configure: the table of the capability at address table", STOPPED + """
            retype(3, 1, 0, 10) = 0
            configure(9, @, -1, 0) = 0
            thread(64, 6) = 80
            thread(64, 7) = -1
            """, "10 26");
        s.each("configure: the space of that at address space", STOPPED + """
            configure(9, -1, @, 0) = 0
            thread(64, 6) = -1
            thread(64, 7) = 36
            """, Kinds.SPACE);
        s.run("configure: no table if that is -1", STOPPED + """
            configure(9, 0, 6, 0) = 0
            thread(64, 6) = 0
            configure(9, -1, 6, 0) = 0
            thread(64, 6) = -1
            thread(64, 7) = 36
            """);
        s.run("configure: no space if that is -1", STOPPED + """
            configure(9, 0, 6, 0) = 0
            thread(64, 7) = 36
            configure(9, 0, -1, 0) = 0
            thread(64, 6) = 0
            thread(64, 7) = -1
            """);
        s.run("configure: neither starts nor stops, and changes no more than that", STOPPED + """
            configure(9, 0, 6, 3) = 0
            thread(64, 0) = 1
            thread(64, 1) = 3
            thread(64, 5) = 0
            thread(16, 1) = 3
            current() = 16
            """);
        s.run("configure: no right is needed", STOPPED + """
            copy(9, 10, 0, 0) = 0
            copy(0, 11, 0, 0) = 0
            copy(6, 12, 0, 0) = 0
            configure(10, 11, 12, 3) = 0
            thread(64, 1) = 3
            thread(64, 6) = 0
            thread(64, 7) = 36
            """);
        s.run("configure: the current thread without a table", """
            configure(1, -1, -1, 3) = 0
            thread(16, 6) = -1
            configure(1, 0, -1, 3) = 1
            tick() = 16
            """);
    }

    private static void priorities(Scripts s) {
        s.run("configure: another priority, READY: it comes to the end of the new line", FOUR + """
            configure(4, 0, -1, 2) = 0
            configure(5, 0, -1, 2) = 0
            run(4, true) = 0
            run(5, true) = 0
            configure(1, 0, -1, 2) = 0
            current() = 32
            configure(4, 0, -1, 1) = 0
            current() = 40
            # thread 32 comes last of line 2: 40, 16, then it
            configure(4, 0, -1, 2) = 0
            current() = 40
            run(5, false) = 0
            current() = 16
            run(1, false) = 0
            current() = 32
            """);
        s.run("configure: another priority, READY: its slice stays as it is", """
            tick() = 16
            thread(16, 5) = 2
            configure(1, 0, -1, 2) = 0
            thread(16, 5) = 2
            tick() = 16
            configure(1, 0, -1, 1) = 0
            thread(16, 5) = 1
            tick() = 16
            thread(16, 5) = 3
            """);
        s.run("configure: the same priority: it keeps its place and its slice", TWO + """
            tick() = 16
            configure(1, 0, 6, 3) = 0
            current() = 16
            thread(16, 5) = 2
            configure(9, 0, 6, 3) = 0
            current() = 16
            """);
        s.run("configure: the same priority in the middle of a line", FOUR + """
            configure(4, 0, -1, 3) = 0
            configure(5, 0, -1, 3) = 0
            run(4, true) = 0
            run(5, true) = 0
            configure(4, 0, -1, 3) = 0
            run(1, false) = 0
            current() = 32
            """);
        s.run("configure: another priority, STOPPED: it stands in no line", STOPPED + """
            configure(9, 0, -1, 3) = 0
            run(1, false) = 0
            current() = -1
            thread(64, 0) = 1
            """);
        s.run("configure: another priority, waiting: it counts when the thread is READY again", TWO + """
            receive(4, -1, true) = 10
            current() = 64
            configure(1, 0, -1, 1) = 0
            thread(16, 0) = 4
            thread(16, 1) = 1
            send(4, 4, -1, false) = 0
            thread(16, 0) = 2
            current() = 64
            tick() = 64
            tick() = 64
            tick() = 64
            run(9, false) = 0
            current() = 16
            """);
        s.run("configure: another priority, waiting: it keeps its place at the gate", TWO + """
            retype(3, 2, 0, 10) = 0
            configure(10, 0, -1, 3) = 0
            run(10, true) = 0
            send(4, 1, -1, true) = 10
            send(4, 2, -1, true) = 10
            configure(1, 0, -1, 0) = 0
            receive(4, -1, false) = 0
            thread(72, 2) = 1
            receive(4, -1, false) = 0
            thread(72, 2) = 2
            """);
    }

    private static void configureRefusals(Scripts s) {
        s.each("configure refused: NO CAPABILITY (1) for THREAD at t", Kinds.ALL + """
            configure(@, 0, -1, 0) = 1
            """, Kinds.allBut(Kinds.THREAD) + " -1");
        s.each("configure refused: NO CAPABILITY (1) for THREAD at t: there is one", STOPPED + """
            configure(@, 0, -1, 0) = 0
            thread(64, 6) = 0
            """, "9 25");
        s.each("configure refused: NO CAPABILITY (1) for TABLE at table", Kinds.ALL + """
            configure(1, @, -1, 3) = 1
            """, Kinds.allBut(Kinds.TABLE));
        s.run("configure refused: NO CAPABILITY (1) for TABLE at table, unless that is -1", Kinds.ALL + """
            configure(1, -2, -1, 3) = 1
            configure(1, -1, -1, 3) = 0
            """);
        s.each("configure refused: NO CAPABILITY (1) for SPACE at space", Kinds.ALL + """
            configure(1, 0, @, 3) = 1
            """, Kinds.allBut(Kinds.SPACE));
        s.run("configure refused: NO CAPABILITY (1) for SPACE at space, unless that is -1", Kinds.ALL + """
            configure(1, 0, -2, 3) = 1
            configure(1, 0, -1, 3) = 0
            """);
    }

    private static void configurePriorityRefusals(Scripts s) {
        s.each("configure refused: RANGE (4): priority is not 0 .. 3", STOPPED + """
            configure(9, 0, 6, @) = 4
            configure(1, 0, 6, @) = 4
            """, "-1 4 5 -4 -2147483648 2147483647");
        s.each("configure refused: RANGE (4): priority is not 0 .. 3: all inside", STOPPED + """
            configure(9, 0, 6, @) = 0
            thread(64, 1) = @
            """, "0 1 2 3");
        for (int own = 0; own <= 3; own++) {
            StringBuilder text = new StringBuilder(STOPPED);
            text.append("configure(1, 0, -1, ").append(own).append(") = 0\n");
            for (int priority = 0; priority <= 3; priority++) {
                int due = priority > own ? 2 : 0;
                text.append("configure(9, 0, 6, ").append(priority).append(") = ").append(due).append("\n");
            }
            text.append("thread(64, 1) = ").append(own).append("\n");
            String title = "configure refused: RIGHT (2): priority is above that of the current thread, " + own;
            s.run(title, text.toString());
        }
        s.run("configure refused: RIGHT (2): also when the thread has that priority already", STOPPED + """
            configure(9, 0, -1, 3) = 0
            configure(1, 0, -1, 2) = 0
            configure(9, 0, -1, 3) = 2
            configure(1, 0, -1, 3) = 2
            thread(64, 1) = 3
            thread(16, 1) = 2
            """);
    }

    private static void runs(Scripts s) {
        s.run("run on: STOPPED becomes READY, with a new slice, at the end of its line", STOPPED + """
            configure(9, 0, -1, 3) = 0
            run(9, true) = 0
            thread(64, 0) = 2
            thread(64, 5) = 3
            current() = 16
            run(1, false) = 0
            current() = 64
            run(1, true) = 0
            thread(16, 5) = 3
            current() = 64
            """);
        s.run("run on: READY, nothing changes", TWO + """
            tick() = 16
            run(1, true) = 0
            thread(16, 0) = 2
            thread(16, 5) = 2
            current() = 16
            run(9, true) = 0
            current() = 16
            tick() = 16
            tick() = 64
            """);
        String[] waits = {"send(4, 1, -1, true)", "receive(4, -1, true)", "listen(5, true)"};
        for (int i = 0; i < waits.length; i++) {
            int state = 3 + i;
            s.run("run on: nothing changes for a thread that waits, state " + state, TWO
                + waits[i] + " = 10\n"
                + "run(1, true) = 0\n"
                + "thread(16, 0) = " + state + "\n"
                + "current() = 64\n"
                + "run(9, false) = 0\n"
                + "current() = -1\n");
            s.run("run off: a thread that waits leaves its gate or bell, state " + state, TWO
                + waits[i] + " = 10\n"
                + "run(1, false) = 0\n"
                + "thread(16, 0) = 1\n"
                + "send(4, 2, -1, false) = 6\n"
                + "receive(4, -1, false) = 6\n"
                + "signal(5) = 0\n"
                + "thread(16, 0) = 1\n"
                + "listen(5, false) = 0\n");
        }
        s.run("run off: READY becomes STOPPED and leaves its line", TWO + """
            tick() = 16
            run(9, false) = 0
            thread(64, 0) = 1
            thread(64, 5) = 3
            run(1, false) = 0
            thread(16, 0) = 1
            thread(16, 5) = 2
            current() = -1
            """);
        s.run("run off: STOPPED stays so", STOPPED + """
            run(9, false) = 0
            thread(64, 0) = 1
            thread(64, 5) = 0
            current() = 16
            """);
        s.run("run: a higher thread is current at once", STOPPED + """
            configure(9, 0, -1, 3) = 0
            configure(1, 0, -1, 2) = 0
            run(9, true) = 0
            current() = 64
            run(9, false) = 0
            current() = 16
            """);
        s.run("run: a thread without a table is current but names nothing", """
            retype(2, 2, 0, 4) = 0
            configure(4, -1, -1, 3) = 0
            run(4, true) = 0
            run(1, false) = 0
            current() = 32
            run(1, true) = 1
            retype(2, 3, 0, 4) = 1
            copy(1, 5, 7, 0) = 1
            move(1, 5) = 1
            delete(1) = 1
            revoke(3) = 1
            configure(4, -1, -1, 0) = 1
            send(5, 1, 1, true) = 1
            receive(5, 1, true) = 1
            signal(5) = 1
            listen(5, true) = 1
            map(5, 6, 0) = 1
            unmap(5) = 1
            bind(0, 5) = 1
            bind(0, -1) = 0
            tick() = 32
            """);
    }

    private static void runRefusals(Scripts s) {
        s.each("run refused: NO CAPABILITY (1) for THREAD", Kinds.ALL + """
            run(@, true) = 1
            run(@, false) = 1
            """, Kinds.allBut(Kinds.THREAD) + " -1");
        s.each("run refused: NO CAPABILITY (1) for THREAD: there is one, with no right", STOPPED + """
            copy(9, 10, 0, 0) = 0
            run(@, true) = 0
            thread(64, 0) = 2
            run(@, false) = 0
            thread(64, 0) = 1
            """, "9 10 25 26");
    }

    private static void ticks(Scripts s) {
        s.run("tick: the slice becomes less by 1; if it is 0 then, the thread becomes READY", """
            tick() = 16
            thread(16, 5) = 2
            tick() = 16
            thread(16, 5) = 1
            tick() = 16
            thread(16, 5) = 3
            thread(16, 0) = 2
            """);
        s.run("tick: if the slice is 0 then, it comes to the end of its line", TWO + """
            tick() = 16
            tick() = 16
            current() = 16
            tick() = 64
            thread(16, 5) = 3
            thread(64, 5) = 3
            tick() = 64
            tick() = 64
            tick() = 16
            thread(64, 5) = 3
            """);
        s.run("tick: three threads of one line, and a lower one that keeps its slice", FOUR + """
            configure(4, 0, -1, 3) = 0
            configure(5, 0, -1, 3) = 0
            configure(6, 0, -1, 2) = 0
            run(6, true) = 0
            run(5, true) = 0
            run(4, true) = 0
            tick() = 16
            tick() = 16
            tick() = 40
            tick() = 40
            tick() = 40
            tick() = 32
            tick() = 32
            tick() = 32
            tick() = 16
            thread(48, 5) = 3
            """);
        s.run("tick: only the current thread's slice", TWO + """
            tick() = 16
            thread(64, 5) = 3
            thread(16, 5) = 2
            """);
        s.run("tick: NONE when there is none, and nothing changes", """
            tick() = 16
            run(1, false) = 0
            tick() = -1
            tick() = -1
            tick() = -1
            thread(16, 5) = 2
            thread(16, 0) = 1
            """);
        s.run("tick: the line is that of the priority", FOUR + """
            configure(4, 0, -1, 1) = 0
            run(4, true) = 0
            configure(1, 0, -1, 1) = 0
            current() = 32
            tick() = 32
            tick() = 32
            tick() = 16
            """);
        s.run("tick: a slice that was used in part goes on after a higher thread", TWO + """
            tick() = 16
            bind(0, 5) = 0
            configure(9, 0, -1, 2) = 0
            listen(5, true) = 10
            tick() = 64
            thread(64, 5) = 2
            interrupt(0) = 1
            tick() = 16
            thread(16, 5) = 2
            thread(64, 5) = 2
            """);
    }

    /** No sentence but those of tick and of becoming READY changes a slice. */
    private static void slices(Scripts s) {
        String[] waits = {"send(4, 1, -1, true)", "receive(4, -1, true)", "listen(5, true)"};
        for (String wait : waits) {
            String gone = wait.startsWith("listen") ? "delete(5)" : "delete(4)";
            s.run("slice: it stays until the thread becomes READY, " + wait, TWO
                + "tick() = 16\n"
                + wait + " = 10\n"
                + "thread(16, 5) = 2\n"
                + "configure(1, 0, -1, 1) = 0\n"
                + "thread(16, 5) = 2\n"
                + "tick() = 64\n"
                + "thread(16, 5) = 2\n"
                + gone + " = 0\n"
                + "thread(16, 0) = 1\n"
                + "thread(16, 5) = 2\n"
                + "configure(1, 0, -1, 2) = 0\n"
                + "thread(16, 5) = 2\n"
                + "run(1, true) = 0\n"
                + "thread(16, 5) = 3\n");
        }
    }

    private static void currents(Scripts s) {
        s.run("current: the first of the highest line that is not empty", FOUR + """
            configure(4, 0, -1, 0) = 0
            configure(5, 0, -1, 1) = 0
            configure(6, 0, -1, 2) = 0
            run(4, true) = 0
            run(5, true) = 0
            run(6, true) = 0
            current() = 16
            run(1, false) = 0
            current() = 48
            run(6, false) = 0
            current() = 40
            run(5, false) = 0
            current() = 32
            thread(32, 1) = 0
            run(4, false) = 0
            current() = -1
            """);
        s.run("current: a thread that has been in a line before leaves it for good", TWO + """
            tick() = 16
            tick() = 16
            tick() = 64
            tick() = 64
            tick() = 64
            tick() = 16
            run(9, false) = 0
            current() = 16
            run(1, false) = 0
            current() = -1
            """);
        s.run("current: threads that have waited come to the end of their line", TWO + """
            bind(0, 5) = 0
            listen(5, true) = 10
            listen(5, true) = 10
            current() = -1
            interrupt(0) = 1
            current() = 16
            interrupt(0) = 1
            current() = 16
            run(1, false) = 0
            current() = 64
            run(9, false) = 0
            current() = -1
            """);
        s.run("current: NONE when there is none", """
            current() = 16
            run(1, false) = 0
            current() = -1
            """);
    }
}
