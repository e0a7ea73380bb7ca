/**
 * Terms: the answers of system calls: IDLE before all others, the reasons in the order in which the call names
 * them, what NO CAPABILITY and OCCUPIED mean. That a refused call changes nothing is looked at by Scripts.
 */
public final class RefusalTest {
    public static void main(String[] args) {
        Scripts s = new Scripts();
        idle(s);
        idleKernels(s);
        capabilityOrders(s);
        threadOrders(s);
        messageOrders(s);
        mapOrders(s);
        s.end();
    }

    private static void idle(Scripts s) {
        String stopped = Kinds.ALL + """
            run(1, false) = 0
            """;
        String calls = """
            retype(2, 3, 0, 9); retype(9, 3, 0, 9); retype(2, 8, 0, 9); retype(2, 0, 7, 9)
            retype(2, 3, 0, 0); retype(2, 0, 6, 9)
            copy(1, 9, 7, 0); copy(9, 10, 7, 0); copy(2, 9, 7, 0); copy(1, 9, 8, 0)
            copy(1, 9, 7, 256); copy(1, 0, 7, 0)
            move(1, 9); move(9, 10); move(1, 0)
            delete(1); delete(9)
            revoke(2); revoke(9)
            configure(1, 0, -1, 3); configure(0, 0, -1, 3); configure(1, 1, -1, 3)
            configure(1, 0, 1, 3); configure(1, 0, -1, 4)
            run(1, true); run(1, false); run(0, true)
            send(4, 1, -1, true); send(4, 1, -1, false); send(5, 1, -1, true)
            receive(4, 9, true); receive(4, 9, false); receive(5, 9, true)
            signal(5); signal(4)
            listen(5, true); listen(5, false); listen(4, true)
            map(7, 6, 0); map(8, 6, 0); map(1, 6, 0); map(7, 1, 0); map(7, 6, 16)
            unmap(7); unmap(1)
            bind(0, 5); bind(0, -1); bind(4, 5); bind(0, 4)
            """;
        // Thread 16 listens at another bell, by which it can be woken to look at what has become of the rest.
        String listening = Kinds.ALL + """
            retype(3, 4, 0, 14) = 0
            bind(3, 14) = 0
            listen(14, true) = 10
            """;
        String woken = """
            interrupt(3) = 1
            current() = 16
            listen(5, false) = 6
            receive(4, -1, false) = 6
            send(4, 1, -1, false) = 6
            interrupt(0) = 0
            """;
        for (String call : calls.split("; |\n")) {
            s.run("before all others: 8 IDLE, when there is no current thread", stopped + call + " = 8\n");
            s.run("8 IDLE changes nothing", listening + call + " = 8\n" + woken);
        }
        s.run("IDLE is of system calls alone", stopped + """
            current() = -1
            tick() = -1
            thread(16, 0) = 1
            slot(0, 1, 0) = 2
            interrupt(0) = 0
            page(16, 0) = -1
            """);
    }

    private static void idleKernels(Scripts s) {
        s.run("no current thread: the last one waits at a gate", Kinds.ALL + """
            send(4, 1, -1, true) = 10
            current() = -1
            receive(4, 9, true) = 8
            thread(16, 0) = 3
            """);
        s.run("no current thread: the last one waits at a bell, until it is rung", Kinds.ALL + """
            bind(2, 5) = 0
            listen(5, true) = 10
            signal(5) = 8
            interrupt(2) = 1
            current() = 16
            signal(5) = 0
            """);
        s.run("no current thread: the last one has gone", """
            delete(1) = 0
            delete(0) = 8
            revoke(3) = 8
            """);
        s.run("a current thread of the lowest priority is one", """
            configure(1, 0, -1, 0) = 0
            current() = 16
            run(1, true) = 0
            delete(9) = 1
            """);
    }

    private static void capabilityOrders(Scripts s) {
        s.run("the order of the reasons: retype", Kinds.ALL + """
            # NO CAPABILITY before RANGE, before OCCUPIED
            retype(1, 8, 0, 9) = 1
            retype(1, 0, 7, 9) = 1
            retype(1, 3, 0, 0) = 1
            retype(1, 8, 0, 0) = 1
            # RANGE before OCCUPIED, before ROOM
            retype(2, 8, 0, 0) = 4
            retype(2, 0, 0, 0) = 4
            retype(2, 0, 7, 0) = 4
            retype(2, 0, 7, 9) = 4
            # OCCUPIED before ROOM
            retype(2, 0, 6, 0) = 3
            retype(2, 0, 6, -1) = 3
            retype(2, 0, 6, 9) = 5
            """);
        s.run("the order of the reasons: copy", Kinds.ALL + """
            # NO CAPABILITY before RANGE and OCCUPIED
            copy(9, 10, 8, 0) = 1
            copy(9, 10, 7, 256) = 1
            copy(9, 0, 7, 0) = 1
            # RIGHT before RANGE and OCCUPIED
            copy(2, 9, 8, 0) = 2
            copy(2, 9, 7, -1) = 2
            copy(2, 0, 7, 0) = 2
            # RANGE before OCCUPIED
            copy(1, 0, 8, 0) = 4
            copy(1, 0, 7, 256) = 4
            copy(1, -1, -1, -1) = 4
            copy(1, 0, 7, 0) = 3
            """);
        s.run("the order of the reasons: move", """
            move(9, 0) = 1
            move(9, -1) = 1
            move(9, 9) = 1
            move(1, 1) = 3
            """);
    }

    private static void threadOrders(Scripts s) {
        s.run("the order of the reasons: configure", Kinds.ALL + """
            configure(1, 0, -1, 2) = 0
            # NO CAPABILITY before RANGE, before RIGHT
            configure(0, 0, -1, 4) = 1
            configure(0, 0, -1, 3) = 1
            configure(1, 1, -1, 4) = 1
            configure(1, 1, -1, 3) = 1
            configure(1, 0, 1, -1) = 1
            configure(1, 0, 1, 3) = 1
            # RANGE before RIGHT
            configure(1, 0, -1, 4) = 4
            configure(1, 0, -1, 2147483647) = 4
            configure(1, 0, -1, 3) = 2
            """);
        s.run("the order of the reasons: bind", Kinds.ALL + """
            bind(-1, 4) = 4
            bind(4, 4) = 4
            bind(4, -2) = 4
            bind(3, 4) = 1
            """);
    }

    private static void messageOrders(Scripts s) {
        String weak = Kinds.ALL + """
            copy(4, 9, 5, 0) = 0
            copy(4, 10, 6, 0) = 0
            copy(5, 11, 5, 0) = 0
            copy(5, 12, 6, 0) = 0
            retype(3, 2, 0, 13) = 0
            configure(13, 0, -1, 3) = 0
            run(13, true) = 0
            """;
        s.run("the order of the reasons: send, RIGHT before BUSY and before waiting", weak + """
            send(9, 1, -1, false) = 2
            send(9, 1, -1, true) = 2
            """);
        s.run("the order of the reasons: send, RIGHT even if a thread is RECEIVING", weak + """
            receive(4, -1, true) = 10
            send(9, 1, -1, false) = 2
            send(5, 1, -1, false) = 1
            thread(16, 0) = 4
            """);
        s.run("the order of the reasons: receive, RIGHT before BUSY and before waiting", weak + """
            receive(10, -1, false) = 2
            receive(10, -1, true) = 2
            """);
        s.run("the order of the reasons: receive, RIGHT even if a thread is SENDING", weak + """
            send(4, 1, -1, true) = 10
            receive(10, -1, false) = 2
            receive(5, -1, false) = 1
            thread(16, 0) = 3
            """);
        s.run("the order of the reasons: signal, RIGHT even if a thread is LISTENING", weak + """
            listen(5, true) = 10
            signal(11) = 2
            thread(16, 0) = 5
            """);
        s.run("the order of the reasons: listen, RIGHT before BUSY and before waiting", weak + """
            listen(12, false) = 2
            listen(12, true) = 2
            """);
        s.run("the order of the reasons: listen, RIGHT even if the bell has a word", weak + """
            signal(5) = 0
            listen(12, false) = 2
            listen(12, true) = 2
            listen(5, false) = 0
            """);
    }

    private static void mapOrders(Scripts s) {
        s.run("the order of the reasons: map", Kinds.ALL + """
            map(7, 6, 0) = 0
            # NO CAPABILITY before RANGE
            map(1, 6, 16) = 1
            map(7, 1, 16) = 1
            map(8, 1, -1) = 1
            # NO CAPABILITY before MAPPED
            map(7, 1, 0) = 1
            map(8, 1, 4) = 1
            # RANGE before MAPPED
            map(7, 6, 16) = 4
            map(7, 6, -1) = 4
            map(8, 6, 16) = 4
            map(7, 6, 4) = 7
            """);
        s.run("the order of the reasons: unmap", Kinds.ALL + """
            unmap(6) = 1
            unmap(7) = 7
            """);
    }
}
