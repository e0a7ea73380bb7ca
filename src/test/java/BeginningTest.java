/** Promise 1: a new object. */
public final class BeginningTest {
    public static void main(String[] args) {
        Scripts s = new Scripts();
        s.run("the four capabilities", """
            slot(0, 0, 0) = 1
            slot(0, 0, 1) = 0
            slot(0, 1, 0) = 2
            slot(0, 1, 1) = 16
            slot(0, 2, 0) = 0
            slot(0, 2, 1) = 32
            slot(0, 3, 0) = 0
            slot(0, 3, 1) = 64
            slot(0, 4, 0) = -1
            slot(0, 15, 0) = -1
            slot(0, 0, 2) = 7
            slot(0, 1, 2) = 7
            slot(0, 2, 2) = 7
            slot(0, 3, 2) = 7
            slot(0, 0, 3) = 0
            slot(0, 1, 3) = 0
            slot(0, 2, 3) = 0
            slot(0, 3, 3) = 0
            slot(0, 0, 4) = 0
            slot(0, 1, 4) = 0
            slot(0, 2, 4) = 0
            slot(0, 3, 4) = 0
            slot(0, 0, 5) = -1
            slot(0, 1, 5) = -1
            slot(0, 2, 5) = -1
            slot(0, 3, 5) = -1
            slot(0, 0, 6) = 0
            slot(0, 1, 6) = 0
            slot(0, 2, 6) = 32
            slot(0, 3, 6) = 64
            slot(0, 0, 7) = 1
            slot(0, 1, 7) = 1
            slot(0, 2, 7) = 1
            slot(0, 3, 7) = 1
            slot(16, 0, 0) = -1
            slot(32, 0, 0) = -1
            """);
        s.run("the first thread", """
            current() = 16
            thread(16, 0) = 2
            thread(16, 1) = 3
            thread(16, 2) = 0
            thread(16, 3) = 0
            thread(16, 4) = 0
            thread(16, 5) = 3
            thread(16, 6) = 0
            thread(16, 7) = -1
            thread(24, 0) = -1
            thread(0, 0) = -1
            page(16, 0) = -1
            """);
        s.run("no line is bound", """
            interrupt(0) = 0
            interrupt(1) = 0
            interrupt(2) = 0
            interrupt(3) = 0
            """);
        s.run("untyped 32 has 5 bits", """
            retype(2, 0, 6, 4) = 5
            retype(2, 0, 5, 4) = 0
            slot(0, 4, 1) = 32
            slot(0, 2, 6) = 64
            """);
        s.run("untyped 64 has 6 bits", """
            retype(3, 0, 6, 4) = 0
            slot(0, 4, 1) = 64
            slot(0, 3, 6) = 128
            retype(3, 3, 0, 5) = 5
            """);
        s.end();
    }
}
