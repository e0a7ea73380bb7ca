/** Promises 7, 8, 17 and 18: configure, run, tick, current. */
public final class ThreadTest {
    public static void main(String[] args) {
        Scripts s = new Scripts();
        configures(s);
        runs(s);
        ticks(s);
        s.end();
    }

    private static void configures(Scripts s) {
        s.run("configure: table, space and priority", """
            retype(2, 2, 0, 4) = 0
            retype(2, 5, 0, 5) = 0
            retype(3, 1, 0, 6) = 0
            configure(4, 6, 5, 2) = 0
            thread(32, 0) = 1
            thread(32, 1) = 2
            thread(32, 5) = 0
            thread(32, 6) = 64
            thread(32, 7) = 40
            configure(4, -1, -1, 0) = 0
            thread(32, 1) = 0
            thread(32, 6) = -1
            thread(32, 7) = -1
            configure(4, 0, 5, 3) = 0
            thread(32, 6) = 0
            thread(32, 7) = 40
            """);
        s.run("configure: refused", """
            retype(2, 2, 0, 4) = 0
            retype(2, 5, 0, 5) = 0
            configure(0, 0, -1, 1) = 1
            configure(6, 0, -1, 1) = 1
            configure(-1, 0, -1, 1) = 1
            configure(4, 1, -1, 1) = 1
            configure(4, 6, -1, 1) = 1
            configure(4, -2, -1, 1) = 1
            configure(4, 272, -1, 1) = 1
            configure(4, 0, 0, 1) = 1
            configure(4, 0, 6, 1) = 1
            configure(4, 0, -2, 1) = 1
            configure(4, 0, 5, 4) = 4
            configure(4, 0, 5, -1) = 4
            thread(32, 1) = 0
            thread(32, 6) = -1
            thread(32, 7) = -1
            # lower itself, then nobody may be set above
            configure(1, 0, -1, 1) = 0
            thread(16, 1) = 1
            configure(4, 0, -1, 2) = 2
            configure(1, 0, -1, 2) = 2
            configure(4, 0, -1, 1) = 0
            # the order of the reasons
            configure(0, 1, 0, 9) = 1
            configure(4, 0, -1, 9) = 4
            configure(4, 1, -1, 9) = 1
            configure(4, 0, 1, 9) = 1
            """);
        s.run("configure: a READY thread comes to the end of the new line", """
            retype(2, 2, 0, 4) = 0
            retype(2, 2, 0, 5) = 0
            configure(4, 0, -1, 2) = 0
            configure(5, 0, -1, 2) = 0
            run(4, true) = 0
            run(5, true) = 0
            tick() = 16
            thread(16, 5) = 2
            # the same priority again: the order stays
            configure(4, 0, -1, 2) = 0
            configure(1, 0, -1, 2) = 0
            thread(16, 5) = 2
            current() = 32
            configure(4, 0, -1, 1) = 0
            current() = 40
            # thread 32 comes last of line 2: 40, 16, then it
            configure(4, 0, -1, 2) = 0
            current() = 40
            run(5, false) = 0
            current() = 16
            run(1, false) = 0
            current() = 32
            """);
        s.run("configure: the same priority keeps the place", """
            retype(2, 2, 0, 4) = 0
            configure(4, 0, -1, 3) = 0
            run(4, true) = 0
            configure(1, 0, -1, 3) = 0
            current() = 16
            """);
        s.run("configure: a waiting thread takes its priority when it is READY again", """
            retype(2, 2, 0, 4) = 0
            retype(2, 3, 0, 5) = 0
            configure(4, 0, -1, 3) = 0
            run(4, true) = 0
            receive(5, -1, true) = 10
            current() = 32
            configure(1, 0, -1, 1) = 0
            thread(16, 0) = 4
            thread(16, 1) = 1
            send(5, 4, -1, false) = 0
            thread(16, 0) = 2
            current() = 32
            tick() = 32
            tick() = 32
            tick() = 32
            run(4, false) = 0
            current() = 16
            """);
    }

    private static void runs(Scripts s) {
        s.run("run: on and off", """
            retype(2, 2, 0, 4) = 0
            configure(4, 0, -1, 3) = 0
            run(4, true) = 0
            thread(32, 0) = 2
            thread(32, 5) = 3
            current() = 16
            tick() = 16
            # already READY: nothing changes
            run(1, true) = 0
            current() = 16
            thread(16, 5) = 2
            run(4, false) = 0
            thread(32, 0) = 1
            thread(32, 5) = 3
            run(4, false) = 0
            thread(32, 0) = 1
            run(4, true) = 0
            run(1, false) = 0
            thread(16, 0) = 1
            thread(16, 5) = 2
            current() = 32
            run(1, true) = 0
            thread(16, 5) = 3
            run(4, false) = 0
            current() = 16
            run(1, false) = 0
            current() = -1
            run(1, true) = 8
            """);
        s.run("run: a higher thread is current at once", """
            retype(2, 2, 0, 4) = 0
            configure(4, 0, -1, 3) = 0
            configure(1, 0, -1, 2) = 0
            run(4, true) = 0
            current() = 32
            run(4, false) = 0
            current() = 16
            """);
        s.run("run: a waiting thread is not started, and leaves when it is stopped", """
            retype(2, 2, 0, 4) = 0
            retype(2, 3, 0, 5) = 0
            retype(2, 4, 0, 6) = 0
            configure(4, 0, -1, 3) = 0
            run(4, true) = 0
            receive(5, -1, true) = 10
            current() = 32
            run(1, true) = 0
            thread(16, 0) = 4
            run(1, false) = 0
            thread(16, 0) = 1
            send(5, 4, -1, false) = 6
            run(1, true) = 0
            listen(6, true) = 10
            current() = 16
            run(4, false) = 0
            thread(32, 0) = 1
            signal(6) = 0
            # nobody listened, so that the bell keeps the number
            listen(6, false) = 0
            thread(16, 2) = 256
            run(4, true) = 0
            send(5, 4, -1, true) = 10
            thread(16, 0) = 3
            run(1, false) = 0
            thread(16, 0) = 1
            receive(5, -1, false) = 6
            """);
        s.run("run: refused", """
            run(0, true) = 1
            run(2, false) = 1
            run(4, true) = 1
            run(-1, false) = 1
            run(272, true) = 1
            run(33, true) = 1
            current() = 16
            """);
        s.run("run: a thread without a table is current but names nothing", """
            retype(2, 2, 0, 4) = 0
            configure(4, -1, -1, 3) = 0
            run(4, true) = 0
            run(1, false) = 0
            current() = 32
            run(1, true) = 1
            retype(2, 3, 0, 4) = 1
            copy(1, 5, 7, 0) = 1
            move(1, 5) = 1
            delete(1) = 1
            revoke(3) = 1
            configure(4, -1, -1, 0) = 1
            send(5, 1, 1, true) = 1
            receive(5, 1, true) = 1
            signal(5) = 1
            listen(5, true) = 1
            map(5, 6, 0) = 1
            unmap(5) = 1
            bind(0, 5) = 1
            bind(0, -1) = 0
            tick() = 32
            """);
    }

    private static void ticks(Scripts s) {
        s.run("tick: a thread alone", """
            tick() = 16
            thread(16, 5) = 2
            tick() = 16
            thread(16, 5) = 1
            tick() = 16
            thread(16, 5) = 3
            thread(16, 0) = 2
            """);
        s.run("tick: threads of one line take turns, lower ones wait", """
            retype(2, 2, 0, 4) = 0
            retype(2, 2, 0, 5) = 0
            retype(2, 2, 0, 6) = 0
            configure(4, 0, -1, 3) = 0
            configure(5, 0, -1, 3) = 0
            configure(6, 0, -1, 2) = 0
            run(6, true) = 0
            run(5, true) = 0
            run(4, true) = 0
            tick() = 16
            tick() = 16
            tick() = 40
            thread(16, 5) = 3
            thread(40, 5) = 3
            tick() = 40
            tick() = 40
            tick() = 32
            tick() = 32
            tick() = 32
            tick() = 16
            thread(48, 5) = 3
            """);
        s.run("tick: no thread", """
            run(1, false) = 0
            tick() = -1
            tick() = -1
            current() = -1
            thread(16, 5) = 3
            """);
        s.run("tick: the line follows the priority of the moment", """
            retype(2, 2, 0, 4) = 0
            configure(4, 0, -1, 1) = 0
            run(4, true) = 0
            configure(1, 0, -1, 1) = 0
            current() = 32
            tick() = 32
            tick() = 32
            tick() = 16
            """);
    }
}
