/** Promises 13, 14 and 21: map, unmap, page. */
public final class SpaceTest {
    /** Space 64 in slot 4, that of thread 16; leaves 68 and 72 in 5 and 6; frames 80 and 88 in 7 and 8. */
    private static final String SPACE = """
        retype(3, 5, 0, 4) = 0
        retype(3, 6, 0, 5) = 0
        retype(3, 6, 0, 6) = 0
        retype(3, 7, 0, 7) = 0
        retype(3, 7, 0, 8) = 0
        configure(1, 0, 4, 3) = 0
        """;

    public static void main(String[] args) {
        Scripts s = new Scripts();
        maps(s);
        refusals(s);
        unmaps(s);
        removes(s);
        pages(s);
        s.end();
    }

    private static void maps(Scripts s) {
        s.run("leaves by at / 4, frames by at % 4", SPACE + """
            map(5, 4, 3) = 0
            map(6, 4, 12) = 0
            map(7, 4, 0) = 0
            map(8, 4, 15) = 0
            page(16, 0) = 976
            page(16, 15) = 984
            page(16, 1) = -1
            page(16, 3) = -1
            page(16, 12) = -1
            page(16, 4) = -1
            slot(0, 5, 6) = 1
            slot(0, 6, 6) = 1
            slot(0, 7, 6) = 1
            slot(0, 8, 6) = 1
            slot(0, 4, 6) = 0
            """);
        s.run("the rights are those of the mapped capability", SPACE + """
            copy(7, 9, 5, 0) = 0
            copy(7, 10, 0, 0) = 0
            map(5, 4, 4) = 0
            map(7, 4, 5) = 0
            map(9, 4, 6) = 0
            map(10, 4, 7) = 0
            page(16, 5) = 976
            page(16, 6) = 720
            page(16, 7) = 80
            """);
        s.run("a frame goes to the entry that is left", SPACE + """
            map(5, 4, 0) = 0
            map(7, 4, 3) = 0
            map(8, 4, 3) = 7
            map(8, 4, 2) = 0
            page(16, 2) = 984
            page(16, 3) = 976
            """);
    }

    private static void refusals(Scripts s) {
        s.run("map: refused", SPACE + """
            map(0, 4, 0) = 1
            map(1, 4, 0) = 1
            map(3, 4, 0) = 1
            map(4, 4, 0) = 1
            map(9, 4, 0) = 1
            map(-1, 4, 0) = 1
            map(272, 4, 0) = 1
            map(5, 5, 0) = 1
            map(5, 0, 0) = 1
            map(5, 9, 0) = 1
            map(5, -1, 0) = 1
            map(5, 272, 0) = 1
            map(5, 4, -1) = 4
            map(5, 4, 16) = 4
            map(7, 4, -1) = 4
            map(7, 4, 16) = 4
            map(5, 0, 16) = 1
            # no leaf there
            map(7, 4, 0) = 7
            map(5, 4, 0) = 0
            map(7, 4, 4) = 7
            # the leaf is in a space already, by whatever capability
            map(5, 4, 4) = 7
            map(5, 4, 0) = 7
            copy(5, 9, 0, 0) = 0
            map(9, 4, 4) = 7
            # the entry is not empty
            map(6, 4, 1) = 7
            map(7, 4, 0) = 0
            map(8, 4, 0) = 7
            # the capability is mapped already
            map(7, 4, 1) = 7
            map(7, 4, 16) = 4
            slot(0, 6, 6) = 0
            slot(0, 8, 6) = 0
            page(16, 0) = 976
            page(16, 1) = -1
            """);
        s.run("unmap: refused", SPACE + """
            unmap(0) = 1
            unmap(4) = 1
            unmap(9) = 1
            unmap(-1) = 1
            unmap(272) = 1
            unmap(5) = 7
            unmap(7) = 7
            map(5, 4, 0) = 0
            map(7, 4, 0) = 0
            copy(7, 9, 7, 0) = 0
            unmap(9) = 7
            page(16, 0) = 976
            """);
    }

    private static void unmaps(Scripts s) {
        s.run("unmap: a frame", SPACE + """
            map(5, 4, 0) = 0
            map(7, 4, 1) = 0
            map(8, 4, 2) = 0
            unmap(7) = 0
            page(16, 1) = -1
            page(16, 2) = 984
            slot(0, 7, 6) = 0
            map(7, 4, 0) = 0
            page(16, 0) = 976
            copy(8, 9, 1, 0) = 0
            map(9, 4, 1) = 0
            page(16, 1) = 216
            """);
        s.run("unmap: a leaf keeps what is mapped in it", SPACE + """
            map(5, 4, 0) = 0
            map(7, 4, 1) = 0
            copy(5, 9, 0, 0) = 0
            unmap(9) = 0
            page(16, 1) = -1
            slot(0, 5, 6) = 0
            slot(0, 7, 6) = 1
            map(7, 4, 1) = 7
            map(6, 4, 0) = 0
            map(7, 4, 1) = 7
            map(5, 4, 8) = 0
            page(16, 9) = 976
            page(16, 1) = -1
            unmap(5) = 0
            # unmapped while its leaf is in no space
            unmap(7) = 0
            slot(0, 7, 6) = 0
            map(5, 4, 8) = 0
            page(16, 9) = -1
            """);
    }

    private static void removes(Scripts s) {
        s.run("a removed capability is mapped no more", SPACE + """
            map(5, 4, 0) = 0
            map(7, 4, 1) = 0
            copy(7, 9, 3, 0) = 0
            map(9, 4, 2) = 0
            delete(7) = 0
            page(16, 1) = -1
            page(16, 2) = 464
            map(8, 4, 1) = 0
            revoke(3) = 0
            thread(16, 7) = -1
            """);
        s.run("a destroyed leaf", SPACE + """
            copy(5, 9, 7, 0) = 0
            map(5, 4, 0) = 0
            map(7, 4, 1) = 0
            map(8, 4, 2) = 0
            delete(5) = 0
            page(16, 1) = 976
            delete(9) = 0
            page(16, 1) = -1
            slot(0, 7, 6) = 0
            slot(0, 8, 6) = 0
            map(7, 4, 1) = 7
            map(6, 4, 1) = 0
            page(16, 1) = -1
            map(7, 4, 1) = 0
            page(16, 1) = 976
            """);
        s.run("a destroyed space", SPACE + """
            map(5, 4, 0) = 0
            map(6, 4, 15) = 0
            map(7, 4, 1) = 0
            delete(4) = 0
            thread(16, 7) = -1
            page(16, 1) = -1
            slot(0, 5, 6) = 0
            slot(0, 6, 6) = 0
            # what is mapped in the leaf stays mapped in it
            slot(0, 7, 6) = 1
            retype(2, 5, 0, 4) = 0
            configure(1, 0, 4, 3) = 0
            map(5, 4, 8) = 0
            page(16, 9) = 976
            """);
        s.run("a leaf in a space that is not that of a thread", SPACE + """
            retype(2, 5, 0, 9) = 0
            map(5, 9, 0) = 0
            map(5, 4, 0) = 7
            map(7, 9, 0) = 0
            page(16, 0) = -1
            configure(1, 0, 9, 3) = 0
            page(16, 0) = 976
            """);
    }

    private static void pages(Scripts s) {
        s.run("page: wrong inputs", SPACE + """
            map(5, 4, 0) = 0
            map(7, 4, 0) = 0
            map(6, 4, 12) = 0
            map(8, 4, 15) = 0
            page(16, 0) = 976
            page(16, -1) = -1
            page(16, 16) = -1
            page(16, -2147483648) = -1
            page(16, 2147483647) = -1
            page(0, 0) = -1
            page(17, 0) = -1
            page(24, 0) = -1
            page(-8, 0) = -1
            page(128, 0) = -1
            page(2147483647, 0) = -1
            retype(2, 2, 0, 9) = 0
            page(32, 0) = -1
            configure(9, -1, 4, 0) = 0
            page(32, 0) = 976
            configure(1, 0, -1, 3) = 0
            page(16, 0) = -1
            """);
    }
}
