/** Promise 2: retype. The sizes of the kinds are in MemoryTest, the order of the reasons in RefusalTest. */
public final class RetypeTest {
    public static void main(String[] args) {
        Scripts s = new Scripts();
        made(s);
        news(s);
        freePoints(s);
        roundings(s);
        refusals(s);
        rooms(s);
        s.end();
    }

    private static void made(Scripts s) {
        s.run("each kind comes behind the one before", """
            retype(3, 3, 0, 4) = 0
            slot(0, 4, 0) = 3
            slot(0, 4, 1) = 64
            slot(0, 3, 6) = 66
            retype(3, 4, 0, 5) = 0
            slot(0, 5, 0) = 4
            slot(0, 5, 1) = 66
            slot(0, 3, 6) = 68
            retype(3, 5, 0, 6) = 0
            slot(0, 6, 0) = 5
            slot(0, 6, 1) = 68
            slot(0, 3, 6) = 72
            retype(3, 6, 0, 7) = 0
            slot(0, 7, 0) = 6
            slot(0, 7, 1) = 72
            slot(0, 3, 6) = 76
            retype(3, 7, 0, 8) = 0
            slot(0, 8, 0) = 7
            slot(0, 8, 1) = 80
            slot(0, 3, 6) = 88
            retype(3, 2, 0, 9) = 0
            slot(0, 9, 0) = 2
            slot(0, 9, 1) = 88
            slot(0, 3, 6) = 96
            retype(3, 0, 1, 10) = 0
            slot(0, 10, 0) = 0
            slot(0, 10, 1) = 96
            slot(0, 3, 6) = 98
            retype(3, 1, 0, 11) = 0
            slot(0, 11, 0) = 1
            slot(0, 11, 1) = 112
            slot(0, 3, 6) = 128
            slot(0, 3, 4) = 8
            """);
        s.each("the new capability is a child with all rights and badge 0", """
            retype(2, @, 1, 4) = 0
            slot(0, 4, 0) = @
            slot(0, 4, 1) = 32
            slot(0, 4, 2) = 7
            slot(0, 4, 3) = 0
            slot(0, 4, 4) = 0
            slot(0, 4, 5) = 2
            slot(0, 4, 7) = 1
            slot(0, 2, 4) = 1
            """, "0 1 2 3 4 5 6 7");
        String otherBits = "-2147483648 -1 0 1 6 7 31 32 33 2147483647";
        for (int kind = 1; kind <= 7; kind++) {
            s.each("bits counts for UNTYPED alone: kind " + kind, "retype(2, " + kind + ", @, 4) = 0\n"
                + "slot(0, 4, 0) = " + kind + "\n"
                + "retype(2, " + kind + ", @, 5) = 0\n"
                + "slot(0, 5, 0) = " + kind + "\n", otherBits);
        }
        s.run("addresses through a table", """
            retype(18, 3, 0, 20) = 0
            slot(0, 4, 1) = 32
            slot(0, 4, 5) = 2
            """);
    }

    private static void news(Scripts s) {
        s.run("a new thread is STOPPED, with priority 0, slice 0, no table and no space", """
            retype(2, 2, 0, 4) = 0
            thread(32, 0) = 1
            thread(32, 1) = 0
            thread(32, 2) = 0
            thread(32, 3) = 0
            thread(32, 4) = 0
            thread(32, 5) = 0
            thread(32, 6) = -1
            thread(32, 7) = -1
            current() = 16
            run(1, false) = 0
            current() = -1
            """);
        s.run("a new bell has the word 0, also in memory that a rung bell had", """
            retype(2, 4, 0, 4) = 0
            listen(4, false) = 6
            signal(4) = 0
            delete(4) = 0
            retype(2, 4, 0, 4) = 0
            slot(0, 4, 1) = 32
            listen(4, false) = 6
            """);
        s.run("slots are empty, also in memory that a table had", """
            retype(3, 1, 0, 4) = 0
            slot(64, 0, 0) = -1
            slot(64, 15, 0) = -1
            copy(1, 80, 7, 0) = 0
            copy(1, 95, 7, 0) = 0
            delete(4) = 0
            retype(3, 1, 0, 4) = 0
            slot(0, 4, 1) = 64
            slot(64, 0, 0) = -1
            slot(64, 15, 0) = -1
            """);
        s.run("spaces are empty, also in memory that a space had", """
            retype(2, 6, 0, 4) = 0
            retype(3, 5, 0, 5) = 0
            map(4, 5, 0) = 0
            delete(5) = 0
            retype(3, 5, 0, 5) = 0
            slot(0, 5, 1) = 64
            slot(0, 4, 6) = 0
            map(4, 5, 0) = 0
            unmap(4) = 0
            map(4, 5, 15) = 0
            """);
        s.run("leaves are empty, also in memory that a leaf had", """
            retype(2, 5, 0, 4) = 0
            retype(2, 7, 0, 5) = 0
            configure(1, 0, 4, 3) = 0
            retype(3, 6, 0, 6) = 0
            slot(0, 6, 6) = 0
            map(6, 4, 0) = 0
            page(16, 0) = -1
            page(16, 3) = -1
            map(5, 4, 0) = 0
            delete(6) = 0
            retype(3, 6, 0, 6) = 0
            slot(0, 6, 1) = 64
            slot(0, 6, 6) = 0
            map(6, 4, 0) = 0
            page(16, 0) = -1
            map(5, 4, 0) = 0
            """);
        s.run("a new gate has nobody waiting", """
            retype(2, 3, 0, 4) = 0
            send(4, 1, -1, false) = 6
            receive(4, -1, false) = 6
            """);
        s.run("a new frame is not mapped", """
            retype(2, 7, 0, 4) = 0
            slot(0, 4, 6) = 0
            unmap(4) = 7
            """);
    }

    private static void freePoints(Scripts s) {
        s.run("the free point is the beginning when that capability has no children", """
            slot(0, 2, 6) = 32
            retype(2, 3, 0, 4) = 0
            retype(2, 3, 0, 5) = 0
            slot(0, 2, 6) = 36
            delete(4) = 0
            slot(0, 2, 6) = 36
            delete(5) = 0
            slot(0, 2, 6) = 32
            retype(2, 3, 0, 4) = 0
            slot(0, 4, 1) = 32
            slot(0, 2, 6) = 34
            """);
        s.run("otherwise the unit behind the latest object made out of it, though that has gone", """
            retype(2, 3, 0, 4) = 0
            retype(2, 1, 0, 5) = 0
            slot(0, 5, 1) = 48
            delete(5) = 0
            slot(0, 2, 6) = 64
            slot(0, 2, 4) = 1
            retype(2, 3, 0, 5) = 5
            """);
        s.run("otherwise the unit behind the latest object: the latest one, not the farthest of before", """
            retype(2, 1, 0, 4) = 0
            retype(2, 1, 0, 5) = 0
            slot(0, 2, 6) = 64
            revoke(2) = 0
            retype(2, 3, 0, 4) = 0
            slot(0, 2, 6) = 34
            """);
        s.run("it has children as long as copies of what was made are there", """
            retype(2, 3, 0, 4) = 0
            copy(4, 5, 7, 0) = 0
            delete(4) = 0
            slot(0, 2, 4) = 1
            slot(0, 2, 6) = 34
            retype(2, 3, 0, 4) = 0
            slot(0, 4, 1) = 34
            """);
        s.run("the free point of a moved capability", """
            retype(2, 3, 0, 4) = 0
            move(2, 9) = 0
            slot(0, 9, 6) = 34
            retype(9, 3, 0, 5) = 0
            slot(0, 5, 1) = 34
            """);
        s.run("each untyped memory has its own", """
            retype(2, 3, 0, 4) = 0
            slot(0, 3, 6) = 64
            retype(3, 0, 4, 5) = 0
            slot(0, 5, 6) = 64
            retype(5, 5, 0, 6) = 0
            slot(0, 5, 6) = 68
            slot(0, 3, 6) = 80
            slot(0, 2, 6) = 34
            """);
    }

    private static void roundings(Scripts s) {
        // After a gate the free point is 66: by kind, where the next object begins.
        int[] kinds = {1, 2, 3, 4, 5, 6, 7};
        int[] firsts = {80, 72, 66, 66, 68, 68, 72};
        for (int i = 0; i < kinds.length; i++) {
            s.run("the free point, rounded up to a multiple of the object's size: kind " + kinds[i],
                "retype(3, 3, 0, 4) = 0\n"
                + "slot(0, 3, 6) = 66\n"
                + "retype(3, " + kinds[i] + ", 0, 5) = 0\n"
                + "slot(0, 5, 1) = " + firsts[i] + "\n");
        }
        int[] untyped = {66, 68, 72, 80, 96};
        for (int bits = 1; bits <= 5; bits++) {
            int first = untyped[bits - 1];
            s.run("the free point, rounded up to a multiple of the object's size: untyped of bits " + bits,
                "retype(3, 3, 0, 4) = 0\n"
                + "retype(3, 0, " + bits + ", 5) = 0\n"
                + "slot(0, 5, 1) = " + first + "\n"
                + "slot(0, 5, 6) = " + first + "\n"
                + "slot(0, 3, 6) = " + (first + (1 << bits)) + "\n");
        }
        s.run("the free point, rounded up: one that is a multiple stays", """
            retype(3, 1, 0, 4) = 0
            slot(0, 3, 6) = 80
            retype(3, 1, 0, 5) = 0
            slot(0, 5, 1) = 80
            retype(3, 7, 0, 6) = 0
            slot(0, 6, 1) = 96
            retype(3, 7, 0, 7) = 0
            slot(0, 7, 1) = 104
            """);
    }

    private static void refusals(Scripts s) {
        s.each("refused: NO CAPABILITY (1) for UNTYPED at u", Kinds.ALL + """
            retype(@, 3, 0, 9) = 1
            """, Kinds.allBut(Kinds.UNTYPED) + " -1");
        s.each("refused: NO CAPABILITY (1) for UNTYPED at u: there is one", Kinds.ALL + """
            retype(@, 3, 0, 9) = 0
            """, Kinds.UNTYPED);
        s.each("refused: RANGE (4): kind is not 0 .. 7", """
            retype(2, @, 1, 4) = 4
            """, "-1 8 9 -8 -2147483648 2147483647");
        s.each("refused: RANGE (4): kind is not 0 .. 7: the first and the last", """
            retype(2, @, 1, 4) = 0
            slot(0, 4, 0) = @
            """, "0 7");
        s.each("refused: RANGE (4): kind is 0 and bits is not 1 .. 6", """
            retype(3, 0, @, 4) = 4
            """, "0 7 -1 8 31 32 33 38 64 -2147483648 2147483647");
        s.each("refused: RANGE (4): kind is 0 and bits is not 1 .. 6: the first and the last", """
            retype(3, 0, @, 4) = 0
            slot(0, 4, 1) = 64
            """, "1 6");
        s.each("refused: OCCUPIED (3) at dest", Kinds.ALL + """
            retype(3, 3, 0, @) = 3
            """, Kinds.occupied());
        s.each("refused: OCCUPIED (3) at dest: it is empty", Kinds.ALL + """
            retype(3, 3, 0, @) = 0
            slot(0, 3, 4) = 1
            """, Kinds.EMPTY);
    }

    private static void rooms(Scripts s) {
        s.run("refused: ROOM (5): as large as the memory, and larger", """
            retype(2, 0, 6, 4) = 5
            retype(2, 0, 5, 4) = 0
            slot(0, 4, 1) = 32
            slot(0, 2, 6) = 64
            retype(2, 0, 1, 5) = 5
            """);
        s.run("refused: ROOM (5): the last that fits, and the first that does not", """
            retype(2, 2, 0, 4) = 0
            retype(2, 2, 0, 5) = 0
            retype(2, 2, 0, 6) = 0
            retype(2, 2, 0, 7) = 0
            slot(0, 7, 1) = 56
            retype(2, 2, 0, 8) = 5
            retype(2, 3, 0, 8) = 5
            slot(0, 2, 6) = 64
            slot(0, 2, 4) = 4
            """);
        s.run("refused: ROOM (5): it would begin inside and end outside", """
            retype(2, 0, 2, 4) = 0
            retype(4, 7, 0, 5) = 5
            retype(4, 1, 0, 5) = 5
            retype(4, 0, 3, 5) = 5
            retype(4, 0, 2, 5) = 0
            """);
        s.run("refused: ROOM (5): it would begin behind the end, by rounding", """
            # the untyped memory 34 has two units
            retype(2, 3, 0, 4) = 0
            retype(2, 0, 1, 5) = 0
            slot(0, 5, 1) = 34
            retype(5, 5, 0, 6) = 5
            retype(5, 2, 0, 6) = 5
            retype(5, 3, 0, 6) = 0
            slot(0, 6, 1) = 34
            """);
        s.run("refused: ROOM (5): it would fit but for the rounding", """
            retype(2, 0, 3, 4) = 0
            retype(4, 3, 0, 5) = 0
            # six units are left, but 36 .. 39 alone begin at a multiple of four
            retype(4, 5, 0, 6) = 0
            slot(0, 6, 1) = 36
            retype(4, 3, 0, 7) = 5
            slot(0, 4, 6) = 40
            """);
        s.run("refused: ROOM (5): the free point stays, and a smaller one fits", """
            retype(2, 1, 0, 4) = 0
            retype(2, 3, 0, 5) = 0
            slot(0, 2, 6) = 50
            retype(2, 1, 0, 6) = 5
            slot(0, 2, 6) = 50
            retype(2, 7, 0, 6) = 0
            slot(0, 6, 1) = 56
            """);
        s.run("refused: ROOM (5): not when all children have gone", """
            retype(2, 0, 5, 4) = 0
            retype(2, 3, 0, 5) = 5
            delete(4) = 0
            retype(2, 3, 0, 5) = 0
            slot(0, 5, 1) = 32
            """);
    }
}
