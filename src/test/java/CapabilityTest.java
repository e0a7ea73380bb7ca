/**
 * Promises 3 to 6: copy, move, delete, revoke. What removing makes of objects is in RemovingTest, the order of
 * the reasons in RefusalTest.
 */
public final class CapabilityTest {
    /** Space 64 in slot 4, that of thread 16; leaf 68 in 5, in the space; frame 72 in 6, mapped at 0. */
    private static final String MAPPED_FRAME = """
        retype(3, 5, 0, 4) = 0
        retype(3, 6, 0, 5) = 0
        retype(3, 7, 0, 6) = 0
        configure(1, 0, 4, 3) = 0
        map(5, 4, 0) = 0
        map(6, 4, 0) = 0
        page(16, 0) = 968
        """;

    public static void main(String[] args) {
        Scripts s = new Scripts();
        copies(s);
        copiedRights(s);
        copiedBadges(s);
        copyRefusals(s);
        moves(s);
        deletes(s);
        revokes(s);
        revokesOfTables(s);
        s.end();
    }

    private static void copies(Scripts s) {
        s.each("copy: a new child, for the same object", Kinds.ALL + """
            copy(@, 9, 7, 0) = 0
            slot(0, @, 4) = 1
            slot(0, @, 7) = 2
            slot(0, 9, 4) = 0
            slot(0, 9, 5) = @
            slot(0, 9, 7) = 2
            slot(0, 9, 6) = 0
            """, "0 1 4 5 6 7 8");
        s.run("copy: the kind and the object", Kinds.ALL + """
            copy(8, 9, 7, 0) = 0
            slot(0, 9, 0) = 7
            slot(0, 9, 1) = 48
            copy(9, 10, 7, 0) = 0
            slot(0, 10, 0) = 7
            slot(0, 10, 1) = 48
            slot(0, 10, 5) = 9
            slot(0, 8, 4) = 1
            slot(0, 8, 7) = 3
            """);
        s.run("copy: it is not mapped", MAPPED_FRAME + """
            copy(6, 7, 7, 0) = 0
            slot(0, 6, 6) = 1
            slot(0, 7, 6) = 0
            unmap(7) = 7
            map(7, 4, 3) = 0
            page(16, 3) = 968
            """);
        s.run("copy: a leaf is in its space whatever the capability", MAPPED_FRAME + """
            copy(5, 7, 0, 0) = 0
            slot(0, 7, 6) = 1
            """);
        s.run("copy: through tables", """
            retype(3, 1, 0, 4) = 0
            copy(1, 80, 7, 0) = 0
            slot(64, 0, 1) = 16
            slot(64, 0, 5) = 1
            copy(80, 95, 7, 0) = 0
            slot(64, 15, 5) = 1024
            """);
    }

    private static void copiedRights(Scripts s) {
        for (int has = 0; has < 8; has++) {
            StringBuilder text = new StringBuilder(Kinds.ALL);
            text.append("copy(4, 9, ").append(has).append(", 0) = 0\n");
            for (int wanted = 0; wanted < 8; wanted++) {
                text.append("copy(9, 10, ").append(wanted).append(", 0) = 0\n");
                text.append("slot(0, 10, 2) = ").append(has & wanted).append("\n");
                text.append("delete(10) = 0\n");
            }
            s.run("copy: its rights are those that both src and the number rights have, src " + has, text.toString());
        }
    }

    private static void copiedBadges(Scripts s) {
        s.each("copy: its badge is badge if that of src is 0 and the object is a gate or a bell", Kinds.ALL + """
            copy(4, 9, 7, @) = 0
            slot(0, 9, 3) = @
            copy(5, 10, 7, @) = 0
            slot(0, 10, 3) = @
            """, "0 1 2 127 128 254 255");
        s.each("copy: its badge is that of src, if that is not 0", Kinds.ALL + """
            copy(4, 9, 7, 1) = 0
            copy(5, 10, 7, 255) = 0
            copy(9, 11, 7, @) = 0
            slot(0, 11, 3) = 1
            copy(10, 12, 7, @) = 0
            slot(0, 12, 3) = 255
            """, "0 1 9 254 255");
        s.run("copy: a copy with badge 0 can get one later", Kinds.ALL + """
            copy(4, 9, 7, 0) = 0
            copy(9, 10, 7, 8) = 0
            slot(0, 9, 3) = 0
            slot(0, 10, 3) = 8
            """);
        s.each("copy: no badge for the other kinds", Kinds.ALL + """
            copy(@, 9, 7, 255) = 0
            slot(0, 9, 3) = 0
            """, "0 1 6 7 8");
    }

    private static void copyRefusals(Scripts s) {
        s.each("copy refused: NO CAPABILITY (1) for any kind at src", Kinds.ALL + """
            copy(@, 9, 7, 0) = 1
            """, Kinds.EMPTY + " -1 " + Kinds.NO_SLOT);
        s.each("copy refused: RIGHT (2): it is for untyped memory", Kinds.ALL + """
            copy(@, 9, 7, 0) = 2
            """, Kinds.UNTYPED);
        s.each("copy refused: RANGE (4): rights is not 0 .. 7", Kinds.ALL + """
            copy(4, 9, @, 0) = 4
            """, "-1 8 9 15 16 -8 -2147483648 2147483647");
        s.each("copy refused: RANGE (4): rights is not 0 .. 7: the first and the last", Kinds.ALL + """
            copy(4, 9, @, 0) = 0
            slot(0, 9, 2) = @
            """, "0 7");
        s.each("copy refused: RANGE (4): badge is not 0 .. 255", Kinds.ALL + """
            copy(4, 9, 7, @) = 4
            copy(1, 9, 7, @) = 4
            """, "-1 256 257 511 512 -256 -2147483648 2147483647");
        s.each("copy refused: RANGE (4): badge is not 0 .. 255, though src has one already", Kinds.ALL + """
            copy(4, 9, 7, 5) = 0
            copy(9, 10, 7, @) = 4
            """, "-1 256");
        s.each("copy refused: RANGE (4): badge is not 0 .. 255: the first and the last", Kinds.ALL + """
            copy(4, 9, 7, @) = 0
            slot(0, 9, 3) = @
            """, "0 255");
        s.each("copy refused: OCCUPIED (3) at dest", Kinds.ALL + """
            copy(1, @, 7, 0) = 3
            """, Kinds.occupied());
        s.each("copy refused: OCCUPIED (3) at dest: it is empty", Kinds.ALL + """
            copy(1, @, 7, 0) = 0
            slot(0, 1, 4) = 1
            """, Kinds.EMPTY);
    }

    private static void moves(Scripts s) {
        s.each("move: of any kind, the last slot and the first empty one", Kinds.ALL + """
            move(@, 15) = 0
            slot(0, @, 0) = -1
            slot(0, 15, 7) = 1
            move(15, 9) = 0
            slot(0, 15, 0) = -1
            slot(0, 9, 7) = 1
            """, "1 2 3 4 5 6 7 8");
        s.run("move: as it is, with parent and children", """
            retype(2, 3, 0, 4) = 0
            copy(4, 5, 6, 9) = 0
            copy(5, 6, 7, 0) = 0
            move(5, 10) = 0
            slot(0, 5, 0) = -1
            slot(0, 10, 0) = 3
            slot(0, 10, 1) = 32
            slot(0, 10, 2) = 6
            slot(0, 10, 3) = 9
            slot(0, 10, 4) = 1
            slot(0, 10, 5) = 4
            slot(0, 10, 7) = 3
            slot(0, 6, 5) = 10
            slot(0, 4, 4) = 1
            """);
        s.run("move: as it is, whether it is mapped", MAPPED_FRAME + """
            copy(6, 7, 7, 0) = 0
            move(6, 9) = 0
            slot(0, 9, 6) = 1
            page(16, 0) = 968
            move(7, 10) = 0
            slot(0, 10, 6) = 0
            unmap(9) = 0
            page(16, 0) = -1
            """);
        s.run("move: into another table, and a table into itself", """
            retype(3, 1, 0, 4) = 0
            move(1, 83) = 0
            slot(0, 1, 0) = -1
            slot(64, 3, 0) = 2
            slot(64, 3, 7) = 1
            current() = 16
            run(83, true) = 0
            # still there, but not to be reached
            move(4, 80) = 0
            slot(64, 0, 0) = 1
            slot(64, 0, 1) = 64
            slot(64, 3, 0) = 2
            slot(64, 0, 5) = 3
            delete(80) = 1
            revoke(3) = 0
            slot(64, 0, 0) = -1
            current() = -1
            """);
        s.run("move: table 0 itself, in its own slots", """
            move(0, 15) = 0
            slot(0, 0, 0) = -1
            slot(0, 15, 1) = 0
            # it is reached by 256 .. 271 now, not by 16 .. 31
            delete(17) = 1
            copy(257, 256, 7, 0) = 0
            slot(0, 0, 1) = 16
            """);
        s.each("move refused: NO CAPABILITY (1) for any kind at src", Kinds.ALL + """
            move(@, 10) = 1
            """, Kinds.EMPTY + " -1 " + Kinds.NO_SLOT);
        s.each("move refused: OCCUPIED (3) at dest", Kinds.ALL + """
            move(1, @) = 3
            """, Kinds.occupied());
        s.each("move refused: OCCUPIED (3) at dest: its own slot", Kinds.ALL + """
            move(@, @) = 3
            """, "0 1 2 3 4 5 6 7 8 16 24");
        s.each("move refused: OCCUPIED (3) at dest: it is empty", Kinds.ALL + """
            move(1, @) = 0
            slot(0, 1, 0) = -1
            """, Kinds.EMPTY);
    }

    private static void deletes(Scripts s) {
        s.run("delete: the capability is removed, its children stay", """
            retype(2, 3, 0, 4) = 0
            copy(4, 5, 7, 1) = 0
            copy(5, 6, 7, 0) = 0
            copy(5, 7, 7, 0) = 0
            delete(5) = 0
            slot(0, 5, 0) = -1
            slot(0, 6, 5) = 4
            slot(0, 7, 5) = 4
            slot(0, 4, 4) = 2
            slot(0, 4, 7) = 3
            delete(4) = 0
            slot(0, 6, 5) = 2
            slot(0, 2, 4) = 2
            delete(2) = 0
            slot(0, 6, 5) = -1
            slot(0, 6, 7) = 2
            """);
        s.run("delete: through a table", """
            retype(3, 1, 0, 4) = 0
            copy(1, 95, 7, 0) = 0
            delete(95) = 0
            slot(64, 15, 0) = -1
            slot(0, 1, 4) = 0
            """);
        s.each("delete refused: NO CAPABILITY (1) for any kind", Kinds.ALL + """
            delete(@) = 1
            """, Kinds.EMPTY + " -1 " + Kinds.NO_SLOT);
    }

    private static void revokes(Scripts s) {
        s.run("revoke: all descendants, not the capability itself", """
            retype(2, 3, 0, 4) = 0
            copy(4, 5, 7, 1) = 0
            copy(5, 6, 7, 0) = 0
            copy(6, 7, 7, 0) = 0
            copy(7, 8, 7, 0) = 0
            copy(4, 9, 7, 2) = 0
            revoke(5) = 0
            slot(0, 5, 0) = 3
            slot(0, 5, 4) = 0
            slot(0, 6, 0) = -1
            slot(0, 7, 0) = -1
            slot(0, 8, 0) = -1
            # neither its parent nor its sister
            slot(0, 4, 0) = 3
            slot(0, 9, 0) = 3
            slot(0, 4, 7) = 3
            """);
        s.each("revoke: nothing to remove is no refusal", Kinds.ALL + """
            revoke(@) = 0
            slot(0, @, 4) = 0
            slot(0, @, 7) = 1
            slot(0, 2, 4) = 5
            """, "0 1 3 4 5 6 7 8");
        s.run("revoke: untyped memory is free again", """
            retype(2, 3, 0, 4) = 0
            retype(2, 2, 0, 5) = 0
            copy(5, 6, 7, 0) = 0
            revoke(2) = 0
            slot(0, 4, 0) = -1
            slot(0, 5, 0) = -1
            slot(0, 6, 0) = -1
            slot(0, 2, 4) = 0
            slot(0, 2, 6) = 32
            thread(40, 0) = -1
            """);
        s.run("revoke: of one object alone, where others were made out of the same memory", Kinds.ALL + """
            copy(4, 9, 7, 0) = 0
            revoke(4) = 0
            slot(0, 2, 4) = 5
            slot(0, 9, 0) = -1
            revoke(3) = 0
            slot(0, 2, 4) = 5
            """);
        s.run("revoke: the descendants that it has now, after others between have gone", """
            retype(2, 3, 0, 4) = 0
            copy(4, 5, 7, 0) = 0
            copy(5, 6, 7, 0) = 0
            copy(6, 7, 7, 0) = 0
            delete(6) = 0
            slot(0, 7, 5) = 5
            revoke(5) = 0
            slot(0, 7, 0) = -1
            slot(0, 5, 0) = 3
            slot(0, 4, 7) = 2
            """);
        s.each("revoke refused: NO CAPABILITY (1) for any kind", Kinds.ALL + """
            revoke(@) = 1
            """, Kinds.EMPTY + " -1 " + Kinds.NO_SLOT);
    }

    private static void revokesOfTables(Scripts s) {
        s.run("revoke: an untyped memory that hangs in a table made out of it", """
            # table 64 and gate 80 are made out of the untyped memory 64, which then goes into table 64
            retype(3, 1, 0, 4) = 0
            retype(3, 3, 0, 5) = 0
            copy(5, 6, 7, 7) = 0
            move(3, 80) = 0
            slot(64, 0, 1) = 64
            slot(0, 4, 5) = 1024
            copy(1, 81, 7, 0) = 0
            revoke(80) = 0
            slot(0, 4, 0) = -1
            slot(0, 5, 0) = -1
            slot(0, 6, 0) = -1
            slot(64, 0, 0) = -1
            slot(0, 1, 7) = 1
            current() = 16
            """);
        s.run("revoke: what hangs in a removed table but descends from others goes too", """
            retype(3, 1, 0, 4) = 0
            retype(2, 3, 0, 5) = 0
            copy(5, 80, 7, 1) = 0
            copy(80, 6, 7, 0) = 0
            revoke(3) = 0
            slot(64, 0, 0) = -1
            # its child stays and hangs on the grandparent
            slot(0, 6, 5) = 5
            slot(0, 5, 4) = 1
            """);
        s.run("revoke: the current thread may go with it", """
            copy(1, 4, 7, 0) = 0
            delete(1) = 0
            copy(4, 5, 7, 0) = 0
            copy(5, 6, 7, 0) = 0
            revoke(5) = 0
            current() = 16
            retype(3, 1, 0, 7) = 0
            move(4, 128) = 0
            move(5, 129) = 0
            slot(64, 0, 7) = 2
            revoke(3) = 0
            current() = -1
            """);
    }
}
