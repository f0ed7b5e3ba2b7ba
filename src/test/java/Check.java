import java.nio.charset.StandardCharsets;

/** What the tests share: a book that is told texts, and answers held against what is due. */
final class Check {
    static final int BAD = -9999;
    private int wrong = 0;
    private int held = 0;
    private String about = "";

    void about(String promise) {
        about = promise;
    }

    void due(String call, long got, long want) {
        held++;
        if (got != want) {
            wrong++;
            System.out.println(about + ": " + call + " answered " + got + ", due is " + want);
        }
    }

    /** The call is refused, and STATUS tells why. */
    void refused(LoanBook book, String call, int got, int status) {
        due(call, got, BAD);
        due("status() behind " + call, book.status(), status);
    }

    /** The call is answered, and STATUS is 0. */
    void answered(LoanBook book, String call, int got, int want) {
        due(call, got, want);
        due("status() behind " + call, book.status(), 0);
    }

    void close() {
        System.out.println(held + " answers, " + wrong + " not as due");
        if (wrong != 0) {
            System.exit(1);
        }
    }

    /** Puts a text behind what the TAPE has, without blanks behind it. */
    static void tell(LoanBook book, String text) {
        byte[] bytes = text.getBytes(StandardCharsets.ISO_8859_1);
        int size = book.count(6);
        for (int from = 0; from < bytes.length; from += 20) {
            int[] five = new int[5];
            for (int i = 0; i < 20; i++) {
                int next = from + i < bytes.length ? bytes[from + i] & 255 : 32;
                five[i / 4] = five[i / 4] << 8 | next;
            }
            book.feed(five[0], five[1], five[2], five[3], five[4]);
        }
        book.end(size + bytes.length);
    }

    static int thing(LoanBook book, String text) {
        tell(book, text);
        return book.thing();
    }

    static int house(LoanBook book, String text) {
        tell(book, text);
        return book.house();
    }

    static int courier(LoanBook book, String text) {
        tell(book, text);
        return book.courier();
    }

    static int loan(LoanBook book, int house, String text) {
        tell(book, text);
        return book.loan(house);
    }

    static int report(LoanBook book, int thing, int day, String text) {
        tell(book, text);
        return book.report(thing, day);
    }
}
