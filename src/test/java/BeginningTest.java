/** Promise 1: a new object. */
public final class BeginningTest {
    public static void main(String[] args) {
        Scripts s = new Scripts();
        capabilities(s);
        threads(s);
        memory(s);
        s.end();
    }

    private static void capabilities(Scripts s) {
        s.run("in the slots 0 .. 3 of table 0, in this order, a capability for each of the four", """
            slot(0, 0, 0) = 1
            slot(0, 0, 1) = 0
            slot(0, 1, 0) = 2
            slot(0, 1, 1) = 16
            slot(0, 2, 0) = 0
            slot(0, 2, 1) = 32
            slot(0, 3, 0) = 0
            slot(0, 3, 1) = 64
            slot(0, 0, 6) = 0
            slot(0, 1, 6) = 0
            slot(0, 2, 6) = 32
            slot(0, 3, 6) = 64
            """);
        s.each("with all rights, badge 0, no parent", """
            slot(0, @, 2) = 7
            slot(0, @, 3) = 0
            slot(0, @, 4) = 0
            slot(0, @, 5) = -1
            slot(0, @, 7) = 1
            """, "0 1 2 3");
        s.each("the other slots of table 0 are empty", """
            slot(0, @, 0) = -1
            """, "4 5 6 7 8 9 10 11 12 13 14 15");
        s.each("there is no other table", """
            slot(@, 0, 0) = -1
            slot(@, 15, 0) = -1
            """, "16 32 48 64 80 96 112");
    }

    private static void threads(Scripts s) {
        s.run("thread 16 has table 0, no space, priority 3, and is READY with slice 3", """
            current() = 16
            thread(16, 0) = 2
            thread(16, 1) = 3
            thread(16, 5) = 3
            thread(16, 6) = 0
            thread(16, 7) = -1
            page(16, 0) = -1
            page(16, 15) = -1
            """);
        s.run("a word, a badge and a mark, which are 0 at first", """
            thread(16, 2) = 0
            thread(16, 3) = 0
            thread(16, 4) = 0
            """);
        s.each("there is no other thread", """
            thread(@, 0) = -1
            """, "0 8 24 32 40 48 56 64 72 80 88 96 104 112 120");
    }

    private static void memory(Scripts s) {
        s.each("no line of interrupts is bound", """
            interrupt(@) = 0
            """, "0 1 2 3");
        s.run("untyped 32 of 5 bits", """
            retype(2, 0, 6, 4) = 5
            retype(2, 0, 5, 4) = 0
            slot(0, 4, 1) = 32
            slot(0, 2, 6) = 64
            retype(2, 3, 0, 5) = 5
            """);
        s.run("untyped 64 of 6 bits", """
            retype(3, 0, 6, 4) = 0
            slot(0, 4, 1) = 64
            slot(0, 3, 6) = 128
            retype(3, 3, 0, 5) = 5
            """);
        s.run("each new object begins so, whatever others have done", """
            slot(0, 4, 0) = -1
            slot(0, 2, 6) = 32
            current() = 16
            """);
    }
}
