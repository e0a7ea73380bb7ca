/** Promises 18 to 20: current, slot, thread. */
public final class QuestionTest {
    public static void main(String[] args) {
        Scripts s = new Scripts();
        s.run("current: the first of the highest line", """
            current() = 16
            retype(2, 2, 0, 4) = 0
            retype(2, 2, 0, 5) = 0
            configure(4, 0, -1, 1) = 0
            configure(5, 0, -1, 2) = 0
            run(4, true) = 0
            run(5, true) = 0
            current() = 16
            run(1, false) = 0
            current() = 40
            run(5, false) = 0
            current() = 32
            configure(4, 0, -1, 0) = 0
            current() = 32
            run(4, false) = 0
            current() = -1
            """);
        s.run("slot: no slot of the neighbour", """
            retype(3, 1, 0, 4) = 0
            retype(3, 1, 0, 5) = 0
            copy(1, 95, 7, 0) = 0
            copy(1, 96, 7, 0) = 0
            slot(64, 15, 1) = 16
            slot(80, 0, 1) = 16
            slot(64, 16, 1) = -1
            slot(80, -1, 1) = -1
            slot(64, 17, 1) = -1
            slot(72, 8, 1) = -1
            """);
        s.run("slot: wrong inputs", """
            slot(0, 0, -1) = -1
            slot(0, 0, 8) = -1
            slot(0, 0, 2147483647) = -1
            slot(0, -1, 0) = -1
            slot(0, 16, 0) = -1
            slot(0, 17, 0) = -1
            slot(0, 2147483647, 0) = -1
            slot(-16, 0, 0) = -1
            slot(-1, 1, 0) = -1
            slot(-16, 16, 0) = -1
            slot(1, 0, 0) = -1
            slot(2, 1, 0) = -1
            slot(128, 0, 0) = -1
            slot(-2147483648, 0, 0) = -1
            slot(2147483647, 1, 0) = -1
            slot(16, 0, 0) = -1
            slot(32, 0, 0) = -1
            slot(0, 4, 0) = -1
            slot(0, 4, 4) = -1
            slot(0, 4, 7) = -1
            """);
        s.run("slot: where the parent is", """
            retype(3, 1, 0, 4) = 0
            retype(3, 3, 0, 95) = 0
            slot(64, 15, 5) = 3
            copy(95, 5, 7, 1) = 0
            slot(0, 5, 5) = 1039
            move(95, 82) = 0
            slot(0, 5, 5) = 1026
            slot(64, 2, 4) = 1
            slot(0, 3, 4) = 2
            """);
        s.run("slot: how many capabilities there are for the object", """
            slot(0, 2, 7) = 1
            retype(2, 0, 5, 4) = 0
            # another object of the same units
            slot(0, 2, 7) = 1
            slot(0, 4, 7) = 1
            retype(4, 3, 0, 5) = 0
            slot(0, 5, 1) = 32
            slot(0, 4, 7) = 1
            copy(5, 6, 1, 0) = 0
            copy(6, 7, 1, 0) = 0
            slot(0, 5, 7) = 3
            slot(0, 7, 7) = 3
            slot(0, 5, 4) = 1
            delete(6) = 0
            slot(0, 7, 7) = 2
            """);
        s.run("slot: a table that is gone", """
            retype(3, 1, 0, 4) = 0
            copy(1, 80, 7, 0) = 0
            slot(64, 0, 0) = 2
            delete(4) = 0
            slot(64, 0, 0) = -1
            retype(3, 1, 0, 4) = 0
            slot(64, 0, 0) = -1
            """);
        s.run("slot: what 6 for kinds that have no use", """
            retype(2, 3, 0, 4) = 0
            retype(2, 4, 0, 5) = 0
            retype(2, 5, 0, 6) = 0
            slot(0, 0, 6) = 0
            slot(0, 1, 6) = 0
            slot(0, 4, 6) = 0
            slot(0, 5, 6) = 0
            slot(0, 6, 6) = 0
            """);
        s.run("thread: wrong inputs", """
            thread(16, -1) = -1
            thread(16, 8) = -1
            thread(16, 2147483647) = -1
            thread(0, 0) = -1
            thread(8, 0) = -1
            thread(17, 0) = -1
            thread(24, 0) = -1
            thread(32, 0) = -1
            thread(-8, 0) = -1
            thread(-1, 0) = -1
            thread(128, 0) = -1
            thread(144, 0) = -1
            thread(-2147483648, 0) = -1
            thread(2147483647, 0) = -1
            """);
        s.run("thread: there as long as a capability is for it", """
            retype(2, 2, 0, 4) = 0
            thread(32, 0) = 1
            delete(4) = 0
            thread(32, 0) = -1
            """);
        idle(s);
        s.end();
    }

    /** What every system call answers without a current thread, whatever its arguments. */
    private static void idle(Scripts s) {
        s.run("idle", """
            retype(2, 4, 0, 4) = 0
            bind(0, 4) = 0
            listen(4, true) = 10
            retype(2, 3, 0, 5) = 8
            retype(-1, 9, 9, -1) = 8
            copy(1, 5, 7, 0) = 8
            copy(-1, -1, 8, 256) = 8
            move(1, 5) = 8
            delete(1) = 8
            revoke(2) = 8
            configure(1, 0, -1, 3) = 8
            run(1, true) = 8
            send(4, 1, -1, true) = 8
            receive(4, -1, true) = 8
            signal(4) = 8
            listen(4, true) = 8
            map(5, 6, 16) = 8
            unmap(5) = 8
            bind(9, 4) = 8
            bind(0, -1) = 8
            thread(16, 0) = 5
            slot(0, 1, 0) = 2
            slot(0, 5, 0) = -1
            slot(0, 2, 4) = 1
            tick() = -1
            interrupt(0) = 1
            current() = 16
            """);
    }
}
