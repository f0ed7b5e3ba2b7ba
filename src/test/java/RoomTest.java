import com.sun.management.ThreadMXBean;
import java.lang.management.ManagementFactory;

/** What the dearest runs of 512 calls make, in bytes: a tenth of the room that they have, counted as four bytes an element. */
public final class RoomTest {
    private static final long MOST = 7_300_000L * 4 / 10;
    private static final int ONE_TURN = 5;
    private static final Check check = new Check();
    private static final ThreadMXBean THREADS = (ThreadMXBean) ManagementFactory.getThreadMXBean();

    public static void main(String[] args) {
        // the first run of all also makes what the Java machine itself keeps of the class
        for (int turn = 0; turn < 2; turn++) {
            check.about("turn " + turn);
            boolean counts = turn == 1;
            spent("everything told", counts, 0);
            spent("loans refused by an 8", counts, 1);
            spent("the longest notes and letters", counts, 2);
            spent("dearest days", counts, 3);
        }
        check.close();
    }

    private static void spent(String what, boolean counts, int run) {
        long before = THREADS.getThreadAllocatedBytes(Thread.currentThread().getId());
        Book book = new Book();
        fill(book);
        while (book.callsLeft() >= ONE_TURN) {
            again(book, run, book.callsLeft());
        }
        long made = THREADS.getThreadAllocatedBytes(Thread.currentThread().getId()) - before;
        if (counts) {
            System.out.println(what + ": " + made + " bytes");
            check.due(what + " keeps to its room", made < MOST ? 1 : 0, 1);
        }
    }

    /** Texts of twenty bytes: "jar 7 7", "1 7 9999 9", "0-999", "0+300:0", and their like. */
    private static void fill(Book book) {
        for (int i = 0; i < 16; i++) {
            book.feed(0x6a617220, 0x39393939, 0x20372020, 0x20202020, 0x20202020);
            book.thing();
        }
        for (int i = 0; i < 6; i++) {
            book.feed(0x33302037, 0x20302039, 0x39202020, 0x20202020, 0x20202020);
            book.house();
        }
        for (int i = 0; i < 8; i++) {
            book.feed(0x302d3939, 0x39202020, 0x20202020, 0x20202020, 0x20202020);
            book.courier();
        }
        for (int i = 0; i < 48; i++) {
            book.feed(0x74656172, 0x30203120, 0x2c6c6f73, 0x73302031, 0x20202020);
            book.report(i % 16, i);
            book.appraise(i % 16, i, 9999);
        }
    }

    private static void again(Book book, int run, int call) {
        switch (run) {
            case 0: lendEight(book); book.cancel(book.count(3) - 1); break;
            case 1: refuseNine(book); break;
            case 2: book.note(call % 16, 999, call % 20); book.letter(2, call % 8, call % 9); break;
            default: lendEight(book); check.due("the dearest day", book.dearest(0), 300); break;
        }
    }

    /** "300+300:0,1,2,3,4,5,6,7": each THING is a PARCEL that gets its COURIER, until there are sixteen LOANS. */
    private static void lendEight(Book book) {
        book.feed(0x3330302b, 0x3330303a, 0x302c312c, 0x322c332c, 0x342c352c);
        book.feed(0x362c3720, 0x20202020, 0x20202020, 0x20202020, 0x20202020);
        book.loan(0);
    }

    /** "300+300:0,1,2,3,4,5,6,7,8": there are eight COURIERS for nine PARCELS. */
    private static void refuseNine(Book book) {
        book.feed(0x3330302b, 0x3330303a, 0x302c312c, 0x322c332c, 0x342c352c);
        book.feed(0x362c372c, 0x38202020, 0x20202020, 0x20202020, 0x20202020);
        book.loan(0);
        check.due("fault()", book.fault(), 8);
    }
}
