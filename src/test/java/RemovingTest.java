/** Terms: removing a capability, and destroying its object when it was the last one. */
public final class RemovingTest {
    /** Gate 32 in slot 4, bell 34 in 5; threads 40, 48, 56 in 6, 7, 8, READY behind thread 16, with its table. */
    private static final String WAITERS = """
        retype(2, 3, 0, 4) = 0
        retype(2, 4, 0, 5) = 0
        retype(2, 2, 0, 6) = 0
        retype(2, 2, 0, 7) = 0
        retype(2, 2, 0, 8) = 0
        configure(6, 0, -1, 3) = 0
        configure(7, 0, -1, 3) = 0
        configure(8, 0, -1, 3) = 0
        run(6, true) = 0
        run(7, true) = 0
        run(8, true) = 0
        """;
    /** Space 64 in slot 4, that of thread 16; leaves 68, 72, 76 and 80 in 5 .. 8; frame 88 in 9. */
    private static final String SPACE = """
        retype(3, 5, 0, 4) = 0
        retype(3, 6, 0, 5) = 0
        retype(3, 6, 0, 6) = 0
        retype(3, 6, 0, 7) = 0
        retype(3, 6, 0, 8) = 0
        retype(3, 7, 0, 9) = 0
        configure(1, 0, 4, 3) = 0
        """;

    public static void main(String[] args) {
        Scripts s = new Scripts();
        capabilities(s);
        tables(s);
        tablesOfThreads(s);
        threads(s);
        gates(s);
        bells(s);
        spaces(s);
        leaves(s);
        otherKinds(s);
        s.end();
    }

    private static void capabilities(Scripts s) {
        s.each("its slot is empty", Kinds.ALL + """
            delete(@) = 0
            slot(0, @, 0) = -1
            slot(0, @, 7) = -1
            """, "1 2 3 4 5 6 7 8");
        s.run("its slot is empty, and can be used again", """
            retype(2, 3, 0, 4) = 0
            retype(2, 3, 0, 4) = 3
            delete(4) = 0
            delete(4) = 1
            retype(2, 4, 0, 4) = 0
            slot(0, 4, 0) = 4
            """);
        s.run("its children get its parent as their parent", """
            retype(2, 3, 0, 4) = 0
            copy(4, 5, 7, 1) = 0
            copy(5, 6, 7, 0) = 0
            copy(5, 7, 7, 0) = 0
            copy(7, 8, 7, 0) = 0
            delete(5) = 0
            slot(0, 6, 5) = 4
            slot(0, 7, 5) = 4
            slot(0, 4, 4) = 2
            # the children of its children stay where they are
            slot(0, 8, 5) = 7
            slot(0, 7, 4) = 1
            """);
        s.run("its children get its parent as their parent, or none", """
            copy(1, 4, 7, 0) = 0
            copy(1, 5, 7, 0) = 0
            copy(5, 6, 7, 0) = 0
            delete(1) = 0
            slot(0, 4, 5) = -1
            slot(0, 5, 5) = -1
            slot(0, 6, 5) = 5
            delete(5) = 0
            slot(0, 6, 5) = -1
            """);
        s.run("when it is for a frame and mapped, it is mapped no more", SPACE + """
            copy(9, 10, 3, 0) = 0
            copy(9, 11, 1, 0) = 0
            map(5, 4, 0) = 0
            map(9, 4, 0) = 0
            map(10, 4, 1) = 0
            page(16, 0) = 984
            page(16, 1) = 472
            map(11, 4, 1) = 7
            delete(10) = 0
            page(16, 1) = -1
            page(16, 0) = 984
            slot(0, 9, 6) = 1
            map(11, 4, 1) = 0
            page(16, 1) = 216
            """);
        s.run("when it was not the last one for its object, the object stays as it was", WAITERS + """
            copy(4, 9, 0, 0) = 0
            copy(5, 10, 0, 0) = 0
            copy(1, 11, 0, 0) = 0
            bind(3, 5) = 0
            receive(4, -1, true) = 10
            listen(5, true) = 10
            delete(4) = 0
            delete(5) = 0
            delete(1) = 0
            thread(16, 0) = 4
            thread(40, 0) = 5
            slot(0, 9, 7) = 1
            slot(0, 10, 7) = 1
            interrupt(3) = 1
            thread(40, 0) = 2
            thread(40, 2) = 8
            """);
    }

    private static void tables(Scripts s) {
        s.each("destroyed, of a table, all capabilities in its slots are removed", """
            retype(3, 1, 0, 4) = 0
            copy(1, @, 7, 0) = 0
            copy(@, 5, 7, 0) = 0
            slot(0, 1, 7) = 3
            delete(4) = 0
            slot(0, 1, 7) = 2
            slot(0, 1, 4) = 1
            slot(0, 5, 5) = 1
            """, "80 81 87 94 95");
        s.run("destroyed, of a table, all capabilities in its slots are removed: their objects too", """
            retype(3, 1, 0, 4) = 0
            retype(2, 2, 0, 80) = 0
            retype(2, 4, 0, 95) = 0
            bind(0, 95) = 0
            thread(32, 0) = 1
            interrupt(0) = 1
            delete(4) = 0
            thread(32, 0) = -1
            interrupt(0) = 0
            slot(64, 0, 0) = -1
            slot(64, 15, 0) = -1
            slot(0, 2, 4) = 0
            """);
        s.run("destroyed, of a table: as long as it is there its slots stay", """
            retype(3, 1, 0, 4) = 0
            copy(4, 5, 7, 0) = 0
            copy(1, 80, 7, 0) = 0
            delete(4) = 0
            slot(64, 0, 1) = 16
            slot(0, 5, 7) = 1
            delete(5) = 0
            slot(64, 0, 1) = -1
            slot(0, 1, 7) = 1
            """);
        s.run("destroyed, of a table: tables in tables go all at once", """
            retype(3, 1, 0, 4) = 0
            retype(3, 1, 0, 5) = 0
            retype(2, 2, 0, 6) = 0
            copy(1, 96, 7, 0) = 0
            move(6, 97) = 0
            move(5, 80) = 0
            slot(64, 0, 1) = 80
            slot(80, 1, 1) = 32
            delete(4) = 0
            slot(80, 0, 0) = -1
            slot(80, 1, 0) = -1
            thread(32, 0) = -1
            slot(0, 1, 7) = 1
            slot(0, 1, 4) = 0
            slot(0, 2, 4) = 0
            slot(0, 3, 4) = 0
            """);
        s.run("destroyed, of a table: tables in tables, whatever their order in memory", """
            # table 32 hangs in table 64, table 48 in table 32, a thread in table 48
            retype(2, 1, 0, 4) = 0
            retype(2, 1, 0, 5) = 0
            retype(3, 1, 0, 6) = 0
            retype(3, 2, 0, 97) = 0
            move(5, 80) = 0
            move(4, 112) = 0
            slot(48, 1, 1) = 80
            slot(32, 0, 1) = 48
            slot(64, 0, 1) = 32
            thread(80, 0) = 1
            delete(112) = 0
            slot(32, 0, 0) = -1
            slot(48, 1, 0) = -1
            thread(80, 0) = -1
            slot(0, 2, 4) = 0
            slot(0, 3, 4) = 1
            """);
        s.run("destroyed, of a table: a capability for itself in it does not end it alone", """
            retype(3, 1, 0, 4) = 0
            copy(4, 80, 7, 0) = 0
            copy(1, 81, 7, 0) = 0
            delete(4) = 0
            slot(64, 0, 1) = 64
            slot(64, 0, 5) = 3
            slot(64, 0, 7) = 1
            slot(64, 1, 1) = 16
            revoke(3) = 0
            slot(64, 0, 1) = -1
            slot(64, 1, 1) = -1
            slot(0, 1, 7) = 1
            """);
        s.run("destroyed, of a table: its neighbours stay", """
            retype(3, 1, 0, 4) = 0
            retype(3, 1, 0, 5) = 0
            retype(3, 1, 0, 6) = 0
            copy(1, 95, 7, 0) = 0
            copy(1, 96, 7, 0) = 0
            copy(1, 111, 7, 0) = 0
            copy(1, 112, 7, 0) = 0
            delete(5) = 0
            slot(64, 15, 0) = 2
            slot(80, 0, 0) = -1
            slot(80, 15, 0) = -1
            slot(96, 0, 0) = 2
            slot(0, 1, 4) = 2
            """);
        s.run("destroyed, of a table: children of what goes hang on what stays", """
            retype(3, 1, 0, 4) = 0
            retype(2, 3, 0, 5) = 0
            # a chain that goes in and out of the table
            copy(5, 80, 7, 5) = 0
            copy(80, 6, 7, 0) = 0
            copy(6, 81, 7, 0) = 0
            copy(81, 82, 7, 0) = 0
            copy(82, 7, 7, 0) = 0
            slot(0, 7, 5) = 1026
            delete(4) = 0
            slot(0, 6, 5) = 5
            slot(0, 7, 5) = 6
            slot(0, 5, 4) = 1
            slot(0, 6, 4) = 1
            slot(0, 5, 7) = 3
            """);
    }

    private static void tablesOfThreads(Scripts s) {
        s.run("destroyed, of a table, no thread has that table any more", WAITERS + """
            retype(3, 1, 0, 9) = 0
            retype(3, 1, 0, 10) = 0
            configure(6, 9, -1, 3) = 0
            configure(7, 9, -1, 3) = 0
            configure(8, 10, -1, 3) = 0
            run(7, false) = 0
            delete(9) = 0
            thread(40, 6) = -1
            thread(48, 6) = -1
            thread(56, 6) = 80
            thread(16, 6) = 0
            # no fault of the threads: they stay what they were
            thread(40, 0) = 2
            thread(48, 0) = 1
            # nor do they have the next table in that memory
            revoke(3) = 0
            retype(3, 1, 0, 9) = 0
            slot(0, 9, 1) = 64
            thread(40, 6) = -1
            thread(56, 6) = -1
            """);
        s.run("table 0 goes with all that is in it", """
            retype(2, 3, 0, 4) = 0
            delete(0) = 0
            slot(0, 0, 0) = -1
            slot(0, 1, 0) = -1
            slot(0, 4, 0) = -1
            thread(16, 0) = -1
            current() = -1
            retype(2, 3, 0, 4) = 8
            """);
        s.run("the current thread outlives table 0", """
            retype(3, 1, 0, 4) = 0
            copy(4, 80, 7, 0) = 0
            copy(1, 81, 7, 0) = 0
            delete(0) = 0
            current() = 16
            thread(16, 6) = -1
            slot(64, 0, 0) = 1
            slot(64, 0, 5) = -1
            slot(64, 1, 1) = 16
            slot(64, 1, 7) = 1
            delete(0) = 1
            tick() = 16
            """);
    }

    private static void threads(Scripts s) {
        s.run("a destroyed thread leaves its line: the first, which is current", WAITERS + """
            delete(1) = 0
            thread(16, 0) = -1
            current() = 40
            slot(0, 1, 0) = -1
            """);
        s.run("a destroyed thread leaves its line: one in the middle", WAITERS + """
            delete(7) = 0
            thread(48, 0) = -1
            run(1, false) = 0
            current() = 40
            run(6, false) = 0
            current() = 56
            """);
        s.run("a destroyed thread leaves its line: the last", WAITERS + """
            delete(8) = 0
            retype(3, 2, 0, 9) = 0
            configure(9, 0, -1, 3) = 0
            run(9, true) = 0
            run(1, false) = 0
            run(6, false) = 0
            current() = 48
            run(7, false) = 0
            current() = 64
            """);
        s.run("a destroyed thread leaves its line: the only one", """
            delete(1) = 0
            current() = -1
            tick() = -1
            thread(16, 0) = -1
            slot(0, 1, 0) = -1
            slot(0, 0, 0) = 1
            """);
        s.run("a destroyed thread leaves its gate: RECEIVING", WAITERS + """
            receive(4, 9, true) = 10
            receive(4, 10, true) = 10
            current() = 48
            delete(1) = 0
            send(4, 5, -1, false) = 0
            thread(40, 2) = 5
            send(4, 5, -1, false) = 6
            """);
        s.run("a destroyed thread leaves its gate: SENDING", WAITERS + """
            send(4, 1, -1, true) = 10
            send(4, 2, -1, true) = 10
            send(4, 3, -1, true) = 10
            current() = 56
            delete(6) = 0
            receive(4, -1, false) = 0
            thread(56, 2) = 1
            receive(4, -1, false) = 0
            thread(56, 2) = 3
            receive(4, -1, false) = 6
            """);
        s.run("a destroyed thread leaves its bell", WAITERS + """
            listen(5, true) = 10
            listen(5, true) = 10
            delete(1) = 0
            signal(5) = 0
            thread(40, 0) = 2
            thread(40, 2) = 256
            listen(5, false) = 6
            """);
        s.run("a destroyed thread: the next one in that memory is new", """
            retype(2, 2, 0, 4) = 0
            retype(2, 3, 0, 5) = 0
            configure(4, 0, -1, 3) = 0
            run(4, true) = 0
            receive(5, -1, true) = 10
            send(5, 7, -1, true) = 0
            send(5, 8, -1, true) = 10
            receive(5, -1, true) = 0
            thread(16, 2) = 8
            delete(4) = 0
            delete(5) = 0
            retype(2, 2, 0, 4) = 0
            thread(32, 0) = 1
            thread(32, 1) = 0
            thread(32, 2) = 0
            thread(32, 5) = 0
            thread(32, 6) = -1
            current() = 16
            """);
    }

    private static void gates(Scripts s) {
        s.run("the threads at a destroyed gate become STOPPED: RECEIVING", WAITERS + """
            tick() = 16
            receive(4, 9, true) = 10
            receive(4, 9, true) = 10
            receive(4, 9, true) = 10
            current() = 56
            delete(4) = 0
            thread(16, 0) = 1
            thread(40, 0) = 1
            thread(48, 0) = 1
            thread(56, 0) = 2
            current() = 56
            run(6, true) = 0
            thread(40, 0) = 2
            thread(40, 5) = 3
            run(8, false) = 0
            current() = 40
            """);
        s.run("the threads at a destroyed gate become STOPPED: SENDING", WAITERS + """
            send(4, 1, -1, true) = 10
            send(4, 2, -1, true) = 10
            delete(4) = 0
            thread(16, 0) = 1
            thread(40, 0) = 1
            thread(48, 0) = 2
            # nothing of them is left at a new gate
            retype(3, 3, 0, 4) = 0
            receive(4, -1, false) = 6
            """);
        s.run("the threads at a destroyed gate: those at another one stay", WAITERS + """
            retype(3, 3, 0, 9) = 0
            receive(4, -1, true) = 10
            receive(9, -1, true) = 10
            listen(5, true) = 10
            delete(4) = 0
            thread(16, 0) = 1
            thread(40, 0) = 4
            thread(48, 0) = 5
            """);
    }

    private static void bells(Scripts s) {
        s.run("the threads at a destroyed bell become STOPPED", WAITERS + """
            listen(5, true) = 10
            listen(5, true) = 10
            receive(4, -1, true) = 10
            delete(5) = 0
            thread(16, 0) = 1
            thread(40, 0) = 1
            thread(48, 0) = 4
            thread(16, 2) = 0
            run(1, true) = 0
            thread(16, 0) = 2
            """);
        s.run("no line of interrupts is bound to a destroyed bell any more", """
            retype(2, 4, 0, 4) = 0
            bind(0, 4) = 0
            bind(1, 4) = 0
            bind(2, 4) = 0
            bind(3, 4) = 0
            delete(4) = 0
            interrupt(0) = 0
            interrupt(1) = 0
            interrupt(2) = 0
            interrupt(3) = 0
            # nor to the next bell in that memory
            retype(2, 4, 0, 4) = 0
            slot(0, 4, 1) = 32
            interrupt(0) = 0
            interrupt(3) = 0
            listen(4, false) = 6
            """);
        s.run("no line of interrupts is bound to a destroyed bell any more: others stay", """
            retype(2, 4, 0, 4) = 0
            retype(2, 4, 0, 5) = 0
            bind(0, 4) = 0
            bind(1, 5) = 0
            bind(2, 4) = 0
            bind(3, 5) = 0
            delete(4) = 0
            interrupt(0) = 0
            interrupt(1) = 1
            interrupt(2) = 0
            interrupt(3) = 1
            listen(5, false) = 0
            thread(16, 2) = 10
            """);
    }

    private static void spaces(Scripts s) {
        s.run("destroyed, of a space, no thread has it any more", SPACE + """
            retype(2, 2, 0, 10) = 0
            retype(2, 2, 0, 11) = 0
            retype(2, 5, 0, 12) = 0
            configure(10, -1, 4, 0) = 0
            configure(11, -1, 12, 0) = 0
            copy(4, 13, 0, 0) = 0
            delete(4) = 0
            thread(16, 7) = 64
            thread(32, 7) = 64
            delete(13) = 0
            thread(16, 7) = -1
            thread(32, 7) = -1
            thread(40, 7) = 48
            page(16, 0) = -1
            """);
        s.run("destroyed, of a space, its leaves are mapped no more", SPACE + """
            map(5, 4, 0) = 0
            map(6, 4, 4) = 0
            map(7, 4, 8) = 0
            map(8, 4, 12) = 0
            slot(0, 5, 6) = 1
            slot(0, 8, 6) = 1
            delete(4) = 0
            slot(0, 5, 6) = 0
            slot(0, 6, 6) = 0
            slot(0, 7, 6) = 0
            slot(0, 8, 6) = 0
            unmap(5) = 7
            # they can go into another space
            retype(2, 5, 0, 4) = 0
            map(5, 4, 15) = 0
            map(8, 4, 0) = 0
            """);
        s.run("destroyed, of a space: what is mapped in its leaves stays mapped in them", SPACE + """
            map(5, 4, 0) = 0
            map(9, 4, 1) = 0
            page(16, 1) = 984
            delete(4) = 0
            slot(0, 9, 6) = 1
            retype(2, 5, 0, 4) = 0
            configure(1, 0, 4, 3) = 0
            map(5, 4, 8) = 0
            page(16, 9) = 984
            """);
        s.run("destroyed, of a space: leaves in another one stay", SPACE + """
            retype(2, 5, 0, 10) = 0
            map(5, 4, 0) = 0
            map(6, 10, 0) = 0
            delete(4) = 0
            slot(0, 5, 6) = 0
            slot(0, 6, 6) = 1
            """);
    }

    private static void leaves(Scripts s) {
        s.each("a destroyed leaf leaves its space", SPACE + """
            copy(5, 10, 0, 0) = 0
            map(5, 4, @) = 0
            map(6, 4, @) = 7
            delete(5) = 0
            map(6, 4, @) = 7
            slot(0, 10, 6) = 1
            delete(10) = 0
            map(9, 4, @) = 7
            map(6, 4, @) = 0
            page(16, @) = -1
            """, "0 3 4 15");
        s.run("the capabilities for frames that are mapped in a destroyed leaf are mapped no more", SPACE + """
            copy(9, 10, 7, 0) = 0
            copy(9, 11, 7, 0) = 0
            copy(9, 12, 7, 0) = 0
            copy(9, 13, 7, 0) = 0
            map(5, 4, 0) = 0
            map(6, 4, 4) = 0
            map(9, 4, 0) = 0
            map(10, 4, 1) = 0
            map(11, 4, 2) = 0
            map(12, 4, 3) = 0
            map(13, 4, 4) = 0
            page(16, 3) = 984
            delete(5) = 0
            page(16, 0) = -1
            page(16, 3) = -1
            slot(0, 9, 6) = 0
            slot(0, 10, 6) = 0
            slot(0, 11, 6) = 0
            slot(0, 12, 6) = 0
            # in another leaf it stays
            slot(0, 13, 6) = 1
            page(16, 4) = 984
            unmap(9) = 7
            map(12, 4, 7) = 0
            page(16, 7) = 984
            """);
        s.run("the capabilities for frames that are mapped in a destroyed leaf that is in no space", SPACE + """
            map(5, 4, 0) = 0
            map(9, 4, 0) = 0
            unmap(5) = 0
            slot(0, 9, 6) = 1
            delete(5) = 0
            slot(0, 9, 6) = 0
            map(6, 4, 0) = 0
            map(9, 4, 0) = 0
            """);
    }

    private static void otherKinds(Scripts s) {
        s.run("destroyed, of untyped memory: what was made out of it stays", """
            retype(2, 3, 0, 4) = 0
            retype(2, 2, 0, 5) = 0
            delete(2) = 0
            slot(0, 4, 1) = 32
            slot(0, 4, 5) = -1
            thread(40, 0) = 1
            send(4, 1, -1, false) = 6
            """);
        s.run("destroyed, of untyped memory made out of untyped memory", """
            retype(3, 0, 4, 4) = 0
            retype(4, 3, 0, 5) = 0
            delete(4) = 0
            # its child hangs on the memory around it, which is not free there
            slot(0, 5, 5) = 3
            slot(0, 3, 4) = 1
            slot(0, 3, 6) = 80
            delete(5) = 0
            slot(0, 3, 6) = 64
            """);
        s.run("destroyed, of a frame: nothing but its mapping goes", SPACE + """
            map(5, 4, 0) = 0
            map(9, 4, 0) = 0
            delete(9) = 0
            page(16, 0) = -1
            slot(0, 5, 6) = 1
            retype(3, 7, 0, 9) = 0
            slot(0, 9, 1) = 96
            slot(0, 9, 6) = 0
            map(9, 4, 0) = 0
            page(16, 0) = 992
            """);
    }
}
