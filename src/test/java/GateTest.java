/** Promises 9 and 10: send and receive. The transfer is in TransferTest, the order of the reasons in RefusalTest. */
public final class GateTest {
    /** All kinds; threads 64, 72 and 80 in slots 10, 11 and 12, READY behind thread 16, with its table. */
    private static final String FOUR = Kinds.ALL + """
        retype(3, 2, 0, 10) = 0
        retype(3, 2, 0, 11) = 0
        retype(3, 2, 0, 12) = 0
        configure(10, 0, -1, 3) = 0
        configure(11, 0, -1, 3) = 0
        configure(12, 0, -1, 3) = 0
        run(10, true) = 0
        run(11, true) = 0
        run(12, true) = 0
        """;

    public static void main(String[] args) {
        Scripts s = new Scripts();
        sends(s);
        receives(s);
        orders(s);
        leavers(s);
        sendRefusals(s);
        receiveRefusals(s);
        rights(s);
        s.end();
    }

    private static void sends(Scripts s) {
        s.each("send: if a thread is RECEIVING, a transfer, that becomes READY, the answer is 0", FOUR + """
            copy(4, 13, 7, 200) = 0
            tick() = 16
            receive(4, -1, true) = 10
            thread(16, 0) = 4
            thread(16, 5) = 2
            current() = 64
            tick() = 64
            send(13, -77, -1, @) = 0
            thread(16, 0) = 2
            thread(16, 2) = -77
            thread(16, 3) = 200
            thread(16, 4) = 0
            thread(16, 5) = 3
            # the sender goes on
            current() = 64
            thread(64, 0) = 2
            thread(64, 2) = 0
            thread(64, 5) = 2
            """, "true false");
        s.run("send otherwise: 6 BUSY when block is false", FOUR + """
            send(4, 1, 1, false) = 6
            thread(16, 0) = 2
            current() = 16
            """);
        s.run("send otherwise: SENDING when block is true, and the answer is 10", FOUR + """
            tick() = 16
            send(4, 1, 1, true) = 10
            thread(16, 0) = 3
            thread(16, 2) = 0
            thread(16, 5) = 2
            current() = 64
            """);
        s.run("send otherwise: those who are SENDING are no receivers", FOUR + """
            send(4, 1, -1, true) = 10
            send(4, 2, -1, false) = 6
            send(4, 2, -1, true) = 10
            thread(16, 0) = 3
            thread(64, 0) = 3
            """);
        s.run("send otherwise: a thread at a bell, or at another gate, is not RECEIVING at it", FOUR + """
            retype(3, 3, 0, 13) = 0
            receive(13, -1, true) = 10
            listen(5, true) = 10
            send(4, 1, -1, false) = 6
            thread(16, 0) = 4
            thread(64, 0) = 5
            """);
        s.run("send: a higher receiver is current at once", FOUR + """
            receive(4, -1, true) = 10
            configure(10, 0, -1, 2) = 0
            configure(11, 0, -1, 2) = 0
            configure(12, 0, -1, 2) = 0
            current() = 64
            send(4, 1, -1, false) = 0
            current() = 16
            """);
    }

    private static void receives(Scripts s) {
        s.each("receive: if a thread is SENDING, a transfer, that becomes READY, the answer is 0", FOUR + """
            copy(4, 13, 7, 200) = 0
            tick() = 16
            send(13, -77, -1, true) = 10
            current() = 64
            tick() = 64
            receive(4, -1, @) = 0
            thread(64, 0) = 2
            thread(64, 2) = -77
            thread(64, 3) = 200
            thread(64, 4) = 0
            thread(64, 5) = 2
            current() = 64
            thread(16, 0) = 2
            thread(16, 2) = 0
            thread(16, 5) = 3
            """, "true false");
        s.run("receive otherwise: 6 BUSY when block is false", FOUR + """
            receive(4, 9, false) = 6
            thread(16, 0) = 2
            current() = 16
            """);
        s.run("receive otherwise: RECEIVING when block is true, and the answer is 10", FOUR + """
            tick() = 16
            receive(4, 9, true) = 10
            thread(16, 0) = 4
            thread(16, 5) = 2
            current() = 64
            """);
        s.run("receive otherwise: those who are RECEIVING are no senders", FOUR + """
            receive(4, -1, true) = 10
            receive(4, -1, false) = 6
            receive(4, -1, true) = 10
            thread(16, 0) = 4
            thread(64, 0) = 4
            """);
        s.run("receive otherwise: a thread at another gate is not SENDING at it", FOUR + """
            retype(3, 3, 0, 13) = 0
            send(13, 1, -1, true) = 10
            receive(4, -1, false) = 6
            receive(13, -1, false) = 0
            """);
    }

    private static void orders(Scripts s) {
        s.run("send: to the first of them", FOUR + """
            receive(4, -1, true) = 10
            receive(4, -1, true) = 10
            current() = 72
            send(4, 1, -1, true) = 0
            thread(16, 2) = 1
            thread(64, 0) = 4
            send(4, 2, -1, true) = 0
            thread(64, 2) = 2
            send(4, 3, -1, false) = 6
            # they came to the end of the line in that order too: 72, 80, 16, 64
            run(11, false) = 0
            run(12, false) = 0
            current() = 16
            run(1, false) = 0
            current() = 64
            """);
        s.run("receive: from the first of them", FOUR + """
            send(4, 1, -1, true) = 10
            send(4, 2, -1, true) = 10
            current() = 72
            receive(4, -1, true) = 0
            thread(72, 2) = 1
            thread(16, 0) = 2
            thread(64, 0) = 3
            receive(4, -1, false) = 0
            thread(72, 2) = 2
            receive(4, -1, false) = 6
            thread(72, 2) = 2
            """);
        s.run("the first is who came first, whatever the priority", FOUR + """
            configure(1, 0, -1, 2) = 0
            current() = 64
            send(4, 1, -1, true) = 10
            send(4, 2, -1, true) = 10
            send(4, 3, -1, true) = 10
            current() = 16
            configure(10, 0, -1, 0) = 0
            receive(4, -1, false) = 0
            thread(16, 2) = 1
            thread(64, 0) = 2
            current() = 16
            """);
        s.run("each receiver has its own address", FOUR + """
            receive(4, 13, true) = 10
            receive(4, 14, true) = 10
            send(4, 1, 5, true) = 0
            slot(0, 13, 1) = 34
            slot(0, 14, 1) = -1
            send(4, 2, 6, true) = 0
            slot(0, 14, 1) = 36
            """);
        s.run("each sender has its own word, badge and offer", FOUR + """
            copy(4, 13, 7, 31) = 0
            copy(4, 14, 7, 32) = 0
            send(13, 1, 5, true) = 10
            send(14, 2, 6, true) = 10
            receive(4, 9, true) = 0
            thread(72, 2) = 1
            thread(72, 3) = 31
            slot(0, 9, 1) = 34
            receive(4, 15, true) = 0
            thread(72, 2) = 2
            thread(72, 3) = 32
            slot(0, 15, 1) = 36
            """);
    }

    private static void leavers(Scripts s) {
        s.run("a thread in the middle leaves", FOUR + """
            send(4, 1, -1, true) = 10
            send(4, 2, -1, true) = 10
            send(4, 3, -1, true) = 10
            current() = 80
            run(10, false) = 0
            receive(4, -1, true) = 0
            thread(80, 2) = 1
            receive(4, -1, true) = 0
            thread(80, 2) = 3
            receive(4, -1, false) = 6
            """);
        s.run("the first thread leaves", FOUR + """
            send(4, 1, -1, true) = 10
            send(4, 2, -1, true) = 10
            run(1, false) = 0
            receive(4, -1, true) = 0
            thread(72, 2) = 2
            receive(4, -1, false) = 6
            """);
        s.run("the last thread leaves and comes again", FOUR + """
            send(4, 1, -1, true) = 10
            send(4, 2, -1, true) = 10
            current() = 72
            run(10, false) = 0
            send(4, 3, -1, true) = 10
            current() = 80
            run(10, true) = 0
            receive(4, -1, false) = 0
            thread(80, 2) = 1
            receive(4, -1, false) = 0
            thread(80, 2) = 3
            receive(4, -1, false) = 6
            """);
    }

    private static void sendRefusals(Scripts s) {
        s.each("send refused before: NO CAPABILITY (1) for GATE at g", Kinds.ALL + """
            send(@, 1, -1, true) = 1
            send(@, 1, -1, false) = 1
            """, Kinds.allBut(Kinds.GATE) + " -1");
        s.each("send refused before: NO CAPABILITY (1) for GATE at g: there is one", Kinds.ALL + """
            send(@, 1, -1, true) = 10
            """, Kinds.GATE);
        s.each("send: any address c will do, none is refused", Kinds.ALL + """
            send(4, 1, @, true) = 10
            """, "-1 0 2 " + Kinds.EMPTY + " " + Kinds.NO_SLOT);
    }

    private static void receiveRefusals(Scripts s) {
        s.each("receive refused before: NO CAPABILITY (1) for GATE at g", Kinds.ALL + """
            receive(@, 9, true) = 1
            receive(@, 9, false) = 1
            """, Kinds.allBut(Kinds.GATE) + " -1");
        s.each("receive refused before: NO CAPABILITY (1) for GATE at g: there is one", Kinds.ALL + """
            receive(@, 9, true) = 10
            """, Kinds.GATE);
        s.each("receive: any address d will do, none is refused", Kinds.ALL + """
            receive(4, @, true) = 10
            """, "-1 0 2 " + Kinds.EMPTY + " " + Kinds.NO_SLOT);
    }

    private static void rights(Scripts s) {
        for (int rights = 0; rights < 8; rights++) {
            boolean read = rights % 2 == 1;
            boolean write = rights / 2 % 2 == 1;
            String copied = Kinds.ALL + "copy(4, 9, " + rights + ", 0) = 0\n";
            s.run("send refused before: RIGHT (2): it lacks WRITE, rights " + rights, copied
                + "send(9, 1, -1, false) = " + (write ? 6 : 2) + "\n"
                + "send(9, 1, -1, true) = " + (write ? 10 : 2) + "\n");
            s.run("receive refused before: RIGHT (2): it lacks READ, rights " + rights, copied
                + "receive(9, -1, false) = " + (read ? 6 : 2) + "\n"
                + "receive(9, -1, true) = " + (read ? 10 : 2) + "\n");
        }
        s.run("with WRITE alone, with READ alone", FOUR + """
            copy(4, 13, 2, 0) = 0
            copy(4, 14, 1, 0) = 0
            send(13, 3, -1, true) = 10
            receive(14, -1, false) = 0
            thread(64, 2) = 3
            """);
    }
}
