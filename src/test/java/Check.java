import java.nio.charset.StandardCharsets;

/** What the tests share: a Book that is told texts, and answers held against what is due. */
final class Check {
    static final int BAD = -9999;
    private int wrong = 0;
    private int held = 0;
    private String about = "";

    void about(String promise) {
        about = promise;
    }

    void due(String call, long got, long want) {
        held++;
        if (got != want) {
            wrong++;
            System.out.println(about + ": " + call + " answered " + got + ", due is " + want);
        }
    }

    /** The call is refused, and STATUS tells why. */
    void refused(Book book, String call, int got, int status) {
        due(call, got, BAD);
        due("status() behind " + call, book.status(), status);
    }

    /** The call is answered, and STATUS is 0. */
    void answered(Book book, String call, int got, int want) {
        due(call, got, want);
        due("status() behind " + call, book.status(), 0);
    }

    /** The text just read was WRONG at the place. */
    void wrong(Book book, String call, int got, int place) {
        refused(book, call, got, 2);
        due("place() behind " + call, book.place(), place);
        due("fault() behind " + call, book.fault(), 0);
        due("tape behind " + call, book.count(6), 0);
    }

    /** The text just read is refused by the FAULT. */
    void faulty(Book book, String call, int got, int fault) {
        refused(book, call, got, 4);
        due("fault() behind " + call, book.fault(), fault);
        due("place() behind " + call, book.place(), BAD);
        due("tape behind " + call, book.count(6), 0);
    }

    /** The text just read is right, and there is no room for it. */
    void full(Book book, String call, int got) {
        refused(book, call, got, 9);
        due("fault() behind " + call, book.fault(), 0);
        due("place() behind " + call, book.place(), BAD);
        due("tape behind " + call, book.count(6), 0);
    }

    /** The text just read is taken. */
    void taken(Book book, String call, int got, int want) {
        answered(book, call, got, want);
        due("fault() behind " + call, book.fault(), 0);
        due("place() behind " + call, book.place(), BAD);
        due("tape behind " + call, book.count(6), 0);
    }

    void close() {
        System.out.println(held + " answers, " + wrong + " not as due");
        if (wrong != 0) {
            System.exit(1);
        }
    }

    /** Puts a text on the empty TAPE, without blanks behind it. */
    static void tell(Book book, String text) {
        byte[] bytes = text.getBytes(StandardCharsets.ISO_8859_1);
        for (int from = 0; from < bytes.length; from += 20) {
            int[] five = new int[5];
            for (int i = 0; i < 20; i++) {
                int next = from + i < bytes.length ? bytes[from + i] & 255 : 32;
                five[i / 4] = five[i / 4] << 8 | next;
            }
            book.feed(five[0], five[1], five[2], five[3], five[4]);
        }
        book.end(bytes.length);
    }

    static int thing(Book book, String text) {
        tell(book, text);
        return book.thing();
    }

    static int house(Book book, String text) {
        tell(book, text);
        return book.house();
    }

    static int courier(Book book, String text) {
        tell(book, text);
        return book.courier();
    }

    static int loan(Book book, int house, String text) {
        tell(book, text);
        return book.loan(house);
    }

    static int report(Book book, int thing, int day, String text) {
        tell(book, text);
        return book.report(thing, day);
    }

    /** Has a text read by the call of that name; a loan goes to house 0, a report is of thing 0 and day 5. */
    static int read(Book book, String what, String text) {
        tell(book, text);
        switch (what) {
            case "thing": return book.thing();
            case "house": return book.house();
            case "courier": return book.courier();
            case "loan": return book.loan(0);
            case "report": return book.report(0, 5);
            default: throw new IllegalArgumentException(what);
        }
    }
}
