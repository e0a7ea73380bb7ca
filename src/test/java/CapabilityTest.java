/** Promises 3 to 6: copy, move, delete, revoke; and what removing makes of objects. */
public final class CapabilityTest {
    public static void main(String[] args) {
        Scripts s = new Scripts();
        copies(s);
        moves(s);
        deletes(s);
        destroys(s);
        revokes(s);
        s.end();
    }

    private static void copies(Scripts s) {
        s.run("copy: rights are those of both", """
            retype(2, 3, 0, 4) = 0
            copy(4, 5, 6, 0) = 0
            slot(0, 5, 2) = 6
            copy(5, 6, 3, 0) = 0
            slot(0, 6, 2) = 2
            copy(6, 7, 7, 0) = 0
            slot(0, 7, 2) = 2
            copy(7, 8, 5, 0) = 0
            slot(0, 8, 2) = 0
            slot(0, 8, 0) = 3
            slot(0, 8, 1) = 32
            slot(0, 8, 5) = 7
            slot(0, 7, 4) = 1
            slot(0, 4, 4) = 1
            slot(0, 2, 4) = 1
            slot(0, 4, 7) = 5
            """);
        s.run("copy: badges", """
            retype(2, 3, 0, 4) = 0
            retype(2, 4, 0, 5) = 0
            copy(4, 6, 7, 255) = 0
            slot(0, 6, 3) = 255
            copy(6, 7, 7, 3) = 0
            slot(0, 7, 3) = 255
            copy(6, 8, 7, 0) = 0
            slot(0, 8, 3) = 255
            copy(5, 9, 7, 1) = 0
            slot(0, 9, 3) = 1
            copy(4, 10, 7, 0) = 0
            slot(0, 10, 3) = 0
            copy(10, 11, 7, 8) = 0
            slot(0, 11, 3) = 8
            # no badge for the other kinds
            copy(1, 12, 7, 9) = 0
            slot(0, 12, 3) = 0
            copy(0, 13, 7, 9) = 0
            slot(0, 13, 3) = 0
            """);
        s.run("copy: no badge for spaces, leaves and frames", """
            retype(3, 5, 0, 4) = 0
            retype(3, 6, 0, 5) = 0
            retype(3, 7, 0, 6) = 0
            copy(4, 7, 7, 9) = 0
            copy(5, 8, 7, 9) = 0
            copy(6, 9, 7, 9) = 0
            slot(0, 7, 3) = 0
            slot(0, 8, 3) = 0
            slot(0, 9, 3) = 0
            """);
        s.run("copy: a copy of a mapped frame is not mapped", """
            retype(3, 5, 0, 4) = 0
            retype(3, 6, 0, 5) = 0
            retype(3, 7, 0, 6) = 0
            map(5, 4, 0) = 0
            map(6, 4, 0) = 0
            copy(6, 7, 7, 0) = 0
            slot(0, 6, 6) = 1
            slot(0, 7, 6) = 0
            # a leaf is in its space whatever the capability
            copy(5, 8, 7, 0) = 0
            slot(0, 8, 6) = 1
            """);
        s.run("copy: refused", """
            copy(4, 5, 7, 0) = 1
            copy(-1, 5, 7, 0) = 1
            copy(272, 5, 7, 0) = 1
            copy(2, 5, 7, 0) = 2
            copy(1, 5, 8, 0) = 4
            copy(1, 5, -1, 0) = 4
            copy(1, 5, 7, 256) = 4
            copy(1, 5, 7, -1) = 4
            copy(1, 0, 7, 0) = 3
            copy(1, -1, 7, 0) = 3
            copy(1, 272, 7, 0) = 3
            copy(1, 32, 7, 0) = 3
            copy(1, 1, 7, 0) = 3
            # the order of the reasons
            copy(4, 0, 8, 0) = 1
            copy(2, 0, 8, 0) = 2
            copy(1, 0, 8, 0) = 4
            slot(0, 5, 0) = -1
            slot(0, 1, 4) = 0
            copy(1, 5, 0, 255) = 0
            """);
        s.run("addresses through tables", """
            retype(3, 1, 0, 4) = 0
            copy(1, 80, 7, 0) = 0
            slot(64, 0, 1) = 16
            slot(64, 0, 5) = 1
            copy(80, 95, 7, 0) = 0
            slot(64, 15, 5) = 1024
            # slot 15 of table 0 holds a table: addresses 256 .. 271
            copy(4, 15, 7, 0) = 0
            copy(256, 271, 7, 0) = 3
            delete(271) = 0
            slot(64, 15, 0) = -1
            copy(256, 271, 7, 0) = 0
            slot(64, 15, 0) = 2
            slot(64, 15, 5) = 1024
            """);
    }

    private static void moves(Scripts s) {
        s.run("move: as it is", """
            retype(2, 3, 0, 4) = 0
            copy(4, 5, 6, 9) = 0
            copy(5, 6, 7, 0) = 0
            move(5, 10) = 0
            slot(0, 5, 0) = -1
            slot(0, 10, 0) = 3
            slot(0, 10, 1) = 32
            slot(0, 10, 2) = 6
            slot(0, 10, 3) = 9
            slot(0, 10, 4) = 1
            slot(0, 10, 5) = 4
            slot(0, 10, 7) = 3
            slot(0, 6, 5) = 10
            slot(0, 4, 4) = 1
            move(2, 11) = 0
            slot(0, 11, 6) = 34
            slot(0, 4, 5) = 11
            retype(11, 3, 0, 12) = 0
            slot(0, 12, 1) = 34
            """);
        s.run("move: into another table", """
            retype(3, 1, 0, 4) = 0
            move(1, 83) = 0
            slot(0, 1, 0) = -1
            slot(64, 3, 0) = 2
            slot(64, 3, 7) = 1
            current() = 16
            run(83, true) = 0
            # a table into itself: still there, but not to be reached
            move(4, 80) = 0
            slot(64, 0, 0) = 1
            slot(64, 0, 1) = 64
            slot(64, 3, 0) = 2
            slot(64, 0, 5) = 3
            delete(80) = 1
            revoke(3) = 0
            slot(64, 0, 0) = -1
            current() = -1
            """);
        s.run("move: a mapped frame stays mapped", """
            retype(3, 5, 0, 4) = 0
            retype(3, 6, 0, 5) = 0
            retype(3, 7, 0, 6) = 0
            configure(1, 0, 4, 3) = 0
            map(5, 4, 0) = 0
            map(6, 4, 0) = 0
            move(6, 9) = 0
            slot(0, 9, 6) = 1
            page(16, 0) = 968
            unmap(9) = 0
            page(16, 0) = -1
            """);
        s.run("move: refused", """
            move(4, 5) = 1
            move(-1, 5) = 1
            move(300, 5) = 1
            move(1, 1) = 3
            move(1, 0) = 3
            move(1, -1) = 3
            move(1, 272) = 3
            move(1, 64) = 3
            move(4, 0) = 1
            slot(0, 1, 0) = 2
            """);
    }

    private static void deletes(Scripts s) {
        s.run("delete: children get the parent", """
            retype(2, 3, 0, 4) = 0
            copy(4, 5, 7, 1) = 0
            copy(5, 6, 7, 0) = 0
            copy(5, 7, 7, 0) = 0
            delete(5) = 0
            slot(0, 5, 0) = -1
            slot(0, 6, 5) = 4
            slot(0, 7, 5) = 4
            slot(0, 4, 4) = 2
            slot(0, 4, 7) = 3
            delete(4) = 0
            slot(0, 6, 5) = 2
            slot(0, 7, 5) = 2
            slot(0, 2, 4) = 2
            delete(2) = 0
            slot(0, 6, 5) = -1
            slot(0, 6, 7) = 2
            """);
        s.run("delete: refused", """
            delete(4) = 1
            delete(-1) = 1
            delete(272) = 1
            delete(32) = 1
            delete(-2147483648) = 1
            delete(2147483647) = 1
            """);
        s.run("delete: one of two for a thread", """
            copy(1, 4, 7, 0) = 0
            delete(1) = 0
            current() = 16
            slot(0, 4, 5) = -1
            slot(0, 4, 7) = 1
            delete(4) = 0
            current() = -1
            thread(16, 0) = -1
            slot(0, 0, 0) = 1
            delete(0) = 8
            """);
    }

    private static void destroys(Scripts s) {
        s.run("a table: its capabilities go, and theirs", """
            retype(3, 1, 0, 4) = 0
            retype(3, 1, 0, 5) = 0
            retype(3, 1, 0, 6) = 0
            retype(2, 2, 0, 7) = 0
            retype(2, 3, 0, 8) = 0
            configure(7, 6, -1, 0) = 0
            thread(32, 6) = 96
            # table 80 hangs in table 64 alone
            move(5, 81) = 0
            slot(64, 1, 1) = 80
            retype(3, 1, 0, 5) = 0
            slot(0, 5, 1) = 112
            copy(8, 82, 7, 5) = 0
            copy(82, 9, 7, 0) = 0
            slot(0, 9, 5) = 1026
            delete(4) = 0
            slot(64, 1, 0) = -1
            slot(64, 2, 0) = -1
            slot(80, 0, 0) = -1
            slot(0, 9, 5) = 8
            thread(32, 6) = 96
            delete(6) = 0
            thread(32, 6) = -1
            thread(32, 0) = 1
            """);
        s.run("nested tables go all at once", """
            retype(3, 1, 0, 4) = 0
            retype(3, 1, 0, 5) = 0
            retype(2, 2, 0, 6) = 0
            copy(1, 96, 7, 0) = 0
            move(6, 97) = 0
            move(5, 80) = 0
            slot(64, 0, 1) = 80
            slot(80, 1, 1) = 32
            slot(0, 1, 4) = 1
            slot(0, 2, 4) = 1
            delete(4) = 0
            slot(80, 0, 0) = -1
            slot(80, 1, 0) = -1
            thread(32, 0) = -1
            slot(0, 1, 7) = 1
            slot(0, 1, 4) = 0
            slot(0, 2, 4) = 0
            slot(0, 3, 4) = 0
            """);
        s.run("nested tables go whatever their order in memory", """
            # table 32 hangs in table 64, table 48 in table 32, a thread in table 48
            retype(2, 1, 0, 4) = 0
            retype(2, 1, 0, 5) = 0
            retype(3, 1, 0, 6) = 0
            retype(3, 2, 0, 97) = 0
            move(5, 80) = 0
            move(4, 112) = 0
            slot(48, 1, 1) = 80
            slot(32, 0, 1) = 48
            slot(64, 0, 1) = 32
            thread(80, 0) = 1
            delete(112) = 0
            slot(32, 0, 0) = -1
            slot(48, 1, 0) = -1
            thread(80, 0) = -1
            slot(0, 2, 4) = 0
            slot(0, 3, 4) = 1
            """);
        s.run("the neighbours of a destroyed table stay", """
            retype(3, 1, 0, 4) = 0
            retype(3, 1, 0, 5) = 0
            retype(3, 1, 0, 6) = 0
            copy(1, 95, 7, 0) = 0
            copy(1, 96, 7, 0) = 0
            copy(1, 111, 7, 0) = 0
            copy(1, 112, 7, 0) = 0
            slot(64, 15, 0) = 2
            slot(80, 0, 0) = 2
            slot(80, 15, 0) = 2
            slot(96, 0, 0) = 2
            delete(5) = 0
            slot(64, 15, 0) = 2
            slot(80, 0, 0) = -1
            slot(80, 15, 0) = -1
            slot(96, 0, 0) = 2
            slot(0, 1, 4) = 2
            """);
        s.run("the table of the current thread", """
            retype(3, 1, 0, 4) = 0
            copy(4, 5, 7, 0) = 0
            configure(1, 5, -1, 3) = 0
            thread(16, 6) = 64
            run(0, true) = 1
            configure(1, -1, -1, 3) = 1
            slot(64, 0, 0) = -1
            """);
        s.run("table 0 goes with all that is in it", """
            retype(2, 3, 0, 4) = 0
            delete(0) = 0
            slot(0, 0, 0) = -1
            slot(0, 1, 0) = -1
            slot(0, 4, 0) = -1
            thread(16, 0) = -1
            current() = -1
            retype(2, 3, 0, 4) = 8
            """);
        s.run("the current thread outlives table 0", """
            retype(3, 1, 0, 4) = 0
            copy(4, 80, 7, 0) = 0
            copy(1, 81, 7, 0) = 0
            delete(0) = 0
            current() = 16
            thread(16, 6) = -1
            slot(64, 0, 0) = 1
            slot(64, 0, 5) = -1
            slot(64, 1, 1) = 16
            slot(64, 1, 7) = 1
            delete(0) = 1
            tick() = 16
            """);
        s.run("threads at a gate are stopped", """
            retype(2, 3, 0, 4) = 0
            retype(2, 2, 0, 5) = 0
            retype(2, 2, 0, 6) = 0
            configure(5, 0, -1, 3) = 0
            configure(6, 0, -1, 3) = 0
            run(5, true) = 0
            run(6, true) = 0
            receive(4, 9, true) = 10
            current() = 40
            receive(4, 9, true) = 10
            current() = 48
            copy(4, 7, 7, 0) = 0
            delete(4) = 0
            thread(16, 0) = 4
            delete(7) = 0
            thread(16, 0) = 1
            thread(40, 0) = 1
            thread(48, 0) = 2
            run(5, true) = 0
            thread(40, 0) = 2
            thread(40, 5) = 3
            """);
        s.run("threads at a bell are stopped and its lines are bound no more", """
            retype(2, 4, 0, 4) = 0
            retype(2, 2, 0, 5) = 0
            retype(2, 4, 0, 7) = 0
            configure(5, 0, -1, 3) = 0
            run(5, true) = 0
            bind(0, 4) = 0
            bind(3, 4) = 0
            bind(1, 7) = 0
            listen(4, true) = 10
            current() = 40
            delete(4) = 0
            thread(16, 0) = 1
            interrupt(0) = 0
            interrupt(3) = 0
            interrupt(1) = 1
            """);
        s.run("a thread leaves its line, gate or bell", """
            retype(2, 2, 0, 4) = 0
            retype(2, 3, 0, 5) = 0
            retype(2, 4, 0, 6) = 0
            configure(4, 0, -1, 3) = 0
            run(4, true) = 0
            receive(5, 7, true) = 10
            current() = 32
            delete(1) = 0
            thread(16, 0) = -1
            send(5, 1, -1, false) = 6
            delete(4) = 0
            current() = -1
            """);
    }

    private static void revokes(Scripts s) {
        s.run("revoke: all descendants, not the capability itself", """
            retype(2, 3, 0, 4) = 0
            copy(4, 5, 7, 1) = 0
            copy(5, 6, 7, 0) = 0
            copy(6, 7, 7, 0) = 0
            copy(4, 8, 7, 2) = 0
            revoke(5) = 0
            slot(0, 5, 0) = 3
            slot(0, 6, 0) = -1
            slot(0, 7, 0) = -1
            slot(0, 8, 0) = 3
            slot(0, 4, 7) = 3
            revoke(7) = 1
            revoke(8) = 0
            slot(0, 8, 0) = 3
            revoke(2) = 0
            slot(0, 4, 0) = -1
            slot(0, 5, 0) = -1
            slot(0, 8, 0) = -1
            slot(0, 2, 4) = 0
            slot(0, 2, 6) = 32
            """);
        s.run("revoke: refused", """
            revoke(4) = 1
            revoke(-1) = 1
            revoke(272) = 1
            revoke(48) = 1
            """);
        s.run("revoke: an untyped memory that hangs in a table made out of it", """
            # table 64 and gate 80 are made out of the untyped memory 64, which then goes into table 64
            retype(3, 1, 0, 4) = 0
            retype(3, 3, 0, 5) = 0
            copy(5, 6, 7, 7) = 0
            move(3, 80) = 0
            slot(64, 0, 1) = 64
            slot(0, 4, 5) = 1024
            copy(1, 81, 7, 0) = 0
            revoke(80) = 0
            slot(0, 4, 0) = -1
            slot(0, 5, 0) = -1
            slot(0, 6, 0) = -1
            slot(64, 0, 0) = -1
            slot(0, 1, 7) = 1
            current() = 16
            """);
        s.run("revoke: what hangs in a revoked table but descends from others goes too", """
            retype(3, 1, 0, 4) = 0
            retype(2, 3, 0, 5) = 0
            copy(5, 80, 7, 1) = 0
            copy(80, 6, 7, 0) = 0
            revoke(3) = 0
            slot(64, 0, 0) = -1
            # its child stays and hangs on the grandparent
            slot(0, 6, 5) = 5
            slot(0, 5, 4) = 1
            """);
    }
}
