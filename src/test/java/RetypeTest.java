/** Promise 2: retype. */
public final class RetypeTest {
    public static void main(String[] args) {
        Scripts s = new Scripts();
        s.run("each kind has its size and its beginning", """
            retype(3, 3, 0, 4) = 0
            slot(0, 4, 0) = 3
            slot(0, 4, 1) = 64
            slot(0, 3, 6) = 66
            retype(3, 4, 0, 5) = 0
            slot(0, 5, 0) = 4
            slot(0, 5, 1) = 66
            slot(0, 3, 6) = 68
            retype(3, 5, 0, 6) = 0
            slot(0, 6, 0) = 5
            slot(0, 6, 1) = 68
            slot(0, 3, 6) = 72
            retype(3, 6, 0, 7) = 0
            slot(0, 7, 0) = 6
            slot(0, 7, 1) = 72
            slot(0, 3, 6) = 76
            retype(3, 7, 0, 8) = 0
            slot(0, 8, 0) = 7
            slot(0, 8, 1) = 80
            slot(0, 3, 6) = 88
            retype(3, 2, 0, 9) = 0
            slot(0, 9, 0) = 2
            slot(0, 9, 1) = 88
            slot(0, 3, 6) = 96
            retype(3, 0, 1, 10) = 0
            slot(0, 10, 0) = 0
            slot(0, 10, 1) = 96
            slot(0, 3, 6) = 98
            retype(3, 1, 0, 11) = 0
            slot(0, 11, 0) = 1
            slot(0, 11, 1) = 112
            slot(0, 3, 6) = 128
            retype(3, 3, 0, 12) = 5
            slot(0, 3, 4) = 8
            """);
        s.run("the new capability", """
            retype(2, 3, 99, 4) = 0
            slot(0, 4, 2) = 7
            slot(0, 4, 3) = 0
            slot(0, 4, 4) = 0
            slot(0, 4, 5) = 2
            slot(0, 4, 6) = 0
            slot(0, 4, 7) = 1
            """);
        s.run("a new thread", """
            retype(2, 2, 0, 4) = 0
            thread(32, 0) = 1
            thread(32, 1) = 0
            thread(32, 2) = 0
            thread(32, 3) = 0
            thread(32, 4) = 0
            thread(32, 5) = 0
            thread(32, 6) = -1
            thread(32, 7) = -1
            current() = 16
            """);
        s.run("a new bell has the word 0, also in memory that a rung bell had", """
            retype(2, 4, 0, 4) = 0
            listen(4, false) = 6
            signal(4) = 0
            delete(4) = 0
            retype(2, 4, 0, 4) = 0
            slot(0, 4, 1) = 32
            listen(4, false) = 6
            """);
        s.run("new slots, spaces and leaves are empty", """
            retype(3, 1, 0, 4) = 0
            retype(2, 5, 0, 5) = 0
            configure(1, 0, 5, 3) = 0
            slot(64, 0, 0) = -1
            slot(64, 15, 0) = -1
            page(16, 0) = -1
            page(16, 15) = -1
            retype(2, 6, 0, 6) = 0
            slot(0, 6, 6) = 0
            map(6, 5, 0) = 0
            page(16, 0) = -1
            """);
        s.run("sizes of untyped memory", """
            retype(3, 0, 1, 4) = 0
            slot(0, 3, 6) = 66
            retype(3, 0, 2, 5) = 0
            slot(0, 5, 1) = 68
            slot(0, 3, 6) = 72
            retype(3, 0, 3, 6) = 0
            slot(0, 6, 1) = 72
            retype(3, 0, 4, 7) = 0
            slot(0, 7, 1) = 80
            retype(3, 0, 5, 8) = 0
            slot(0, 8, 1) = 96
            slot(0, 3, 6) = 128
            retype(4, 3, 0, 9) = 0
            retype(4, 3, 0, 10) = 5
            retype(5, 5, 0, 10) = 0
            retype(5, 3, 0, 11) = 5
            retype(8, 0, 5, 11) = 0
            slot(0, 11, 1) = 96
            """);
        s.run("the free point goes back when there are no children, not before", """
            retype(2, 3, 0, 4) = 0
            retype(2, 3, 0, 5) = 0
            delete(5) = 0
            slot(0, 2, 6) = 36
            retype(2, 3, 0, 5) = 0
            slot(0, 5, 1) = 36
            delete(4) = 0
            slot(0, 2, 6) = 38
            delete(5) = 0
            slot(0, 2, 6) = 32
            retype(2, 3, 0, 4) = 0
            slot(0, 4, 1) = 32
            slot(0, 2, 6) = 34
            """);
        s.run("a copy of the made capability keeps the free point", """
            retype(2, 3, 0, 4) = 0
            copy(4, 5, 7, 0) = 0
            delete(4) = 0
            slot(0, 2, 4) = 1
            slot(0, 2, 6) = 34
            retype(2, 3, 0, 4) = 0
            slot(0, 4, 1) = 34
            """);
        s.run("an object must lie in the memory as a whole", """
            retype(2, 0, 3, 4) = 0
            retype(4, 1, 0, 5) = 5
            retype(4, 0, 4, 5) = 5
            retype(4, 3, 0, 5) = 0
            retype(4, 7, 0, 6) = 5
            retype(4, 2, 0, 6) = 5
            retype(4, 5, 0, 6) = 0
            slot(0, 6, 1) = 36
            retype(4, 3, 0, 7) = 5
            slot(0, 4, 6) = 40
            # a refused call leaves the free point as it is
            slot(0, 4, 4) = 2
            """);
        s.run("refused: no capability for untyped memory", """
            retype(0, 3, 0, 4) = 1
            retype(1, 3, 0, 4) = 1
            retype(4, 3, 0, 4) = 1
            retype(-1, 3, 0, 4) = 1
            retype(272, 3, 0, 4) = 1
            retype(32, 3, 0, 4) = 1
            retype(48, 3, 0, 4) = 1
            """);
        s.run("an address through a table", """
            retype(18, 3, 0, 20) = 0
            slot(0, 4, 1) = 32
            slot(0, 4, 5) = 2
            """);
        s.run("refused: range", """
            retype(2, -1, 0, 4) = 4
            retype(2, 8, 1, 4) = 4
            retype(2, 0, 0, 4) = 4
            retype(2, 0, 7, 4) = 4
            retype(2, 0, -1, 4) = 4
            retype(2, 0, 33, 4) = 4
            retype(2, 2147483647, 0, 4) = 4
            retype(2, 7, -5, 4) = 0
            """);
        s.run("refused: occupied", """
            retype(2, 3, 0, 0) = 3
            retype(2, 3, 0, 2) = 3
            retype(2, 3, 0, -1) = 3
            retype(2, 3, 0, 272) = 3
            retype(2, 3, 0, 33) = 3
            retype(2, 3, 0, 16) = 3
            retype(2, 3, 0, 31) = 0
            slot(0, 15, 0) = 3
            """);
        s.run("the order of the reasons", """
            retype(0, 8, 0, 0) = 1
            retype(2, 8, 0, 0) = 4
            retype(2, 0, 6, 0) = 3
            retype(2, 0, 6, 4) = 5
            slot(0, 2, 4) = 0
            slot(0, 2, 6) = 32
            """);
        s.end();
    }
}
