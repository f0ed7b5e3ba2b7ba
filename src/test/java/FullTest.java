/** STATUS 9: of each kind the last that has room and the first that has none, and what the refused one leaves. */
public final class FullTest {
    private static final Check check = new Check();

    public static void main(String[] args) {
        sixteenThings();
        sixHouses();
        eightCouriers();
        sixteenLoans();
        sixteenLoansThatStandNoMore();
        reportsOfOneThing();
        reportsOfAllThings();
        pairsOfOneThing();
        pairsOfAllThings();
        pairsToldAgain();
        oneKindLeavesRoomForTheOthers();
        lastCallOfAll();
        check.close();
    }

    // ---- texts ----

    private static void sixteenThings() {
        check.about("'there are 16 THINGS .. at most (.. from 0 on)'");
        Book book = new Book();
        for (int i = 0; i < 16; i++) {
            check.taken(book, "thing " + i, Check.thing(book, "jar " + (i + 1) + " 7"), i);
        }
        check.full(book, "thing 16", Check.thing(book, "book 99 99"));
        check.full(book, "thing 16 again", Check.thing(book, "jar 1 7"));
        check.faulty(book, "a 4 ahead of the 9", Check.thing(book, "jar 0 7"), 1);
        check.faulty(book, "a 4 ahead of the 9", Check.thing(book, "jar 1 7 not jar not jar"), 2);
        check.wrong(book, "a 2 ahead of the 9", Check.thing(book, "jar 0"), 5);
        check.answered(book, "count(0)", book.count(0), 16);
        for (int i = 0; i < 16; i++) {
            check.due("value(" + i + ", 0)", book.value(i, 0), i + 1);
        }
        check.refused(book, "value(16, 0)", book.value(16, 0), 1);
        check.due("letter", book.letter(0, 15, 0), 'j');
        check.refused(book, "letter of 16", book.letter(0, 16, 0), 1);
    }

    private static void sixHouses() {
        check.about("'there are .. 6 HOUSES .. at most (.. from 0 on)'");
        Book book = new Book();
        Check.thing(book, "jar 1 1");
        for (int i = 0; i < 6; i++) {
            check.taken(book, "house " + i, Check.house(book, (i + 1) + " 7 7 7"), i);
        }
        check.full(book, "house 6", Check.house(book, "9 7 7 7"));
        check.full(book, "house 6 again", Check.house(book, "9 7 7 7"));
        check.faulty(book, "a 4 ahead of the 9", Check.house(book, "0 7 7 7"), 3);
        check.wrong(book, "a 2 ahead of the 9", Check.house(book, "0 7 7"), 5);
        check.answered(book, "count(1)", book.count(1), 6);
        for (int i = 0; i < 6; i++) {
            check.due("letter(1, " + i + ", 0)", book.letter(1, i, 0), '1' + i);
        }
        check.refused(book, "letter(1, 6, 0)", book.letter(1, 6, 0), 1);
        check.refused(book, "a loan to house 6", Check.loan(book, 6, "0+1:0"), 1);
        check.taken(book, "a loan to house 5", Check.loan(book, 5, "0+1:0"), 0);
    }

    private static void eightCouriers() {
        check.about("'there are .. 8 COURIERS .. at most (.. from 0 on)'");
        Book book = new Book();
        for (int i = 0; i < 8; i++) {
            check.taken(book, "courier " + i, Check.courier(book, (i + 1) + "-9"), i);
        }
        check.full(book, "courier 8", Check.courier(book, "0-9"));
        check.full(book, "courier 8 again", Check.courier(book, "0-9"));
        check.faulty(book, "a 4 ahead of the 9", Check.courier(book, "9-0"), 4);
        check.wrong(book, "a 2 ahead of the 9", Check.courier(book, "9-0,"), 4);
        check.answered(book, "count(2)", book.count(2), 8);
        for (int i = 0; i < 8; i++) {
            check.due("ready(" + i + ", 0, 1)", book.ready(i, 0, 1), i + 1);
        }
        check.refused(book, "ready(8, 0, 1)", book.ready(8, 0, 1), 1);
    }

    /** Sixteen LOANS of THING 0, of three DAYS each: loan i from 3 * i on; a COURIER goes with each. */
    private static Book lent() {
        Book book = new Book();
        Check.thing(book, "jar 7 7");
        Check.thing(book, "jar 7 8");
        Check.house(book, "1 7 0 7");
        Check.courier(book, "0-900");
        for (int i = 0; i < 16; i++) {
            check.taken(book, "loan " + i, Check.loan(book, 0, 3 * i + "+1:0"), i);
        }
        return book;
    }

    /** The seventeenth LOAN is refused, by a FAULT if it has one. */
    private static void seventeenth(Book book) {
        check.full(book, "loan 16", Check.loan(book, 0, "50+1:0"));
        check.due("nobody has got a COURIER", book.with(0, 50), -1);
        check.due("nobody has got the THING", book.where(0, 51), -1);
        check.wrong(book, "a 2 ahead of the 9", Check.loan(book, 0, "50+1:"), 5);
        check.faulty(book, "a 5 ahead of the 9", Check.loan(book, 0, "50+0:0"), 5);
        check.faulty(book, "a 7 ahead of the 9", Check.loan(book, 0, "50+1:1"), 7);
        check.faulty(book, "an 8 ahead of the 9", Check.loan(book, 0, "899+1:0"), 8);
        check.due("nobody has got a COURIER", book.with(0, 899), -1);
        check.refused(book, "a 1 ahead of the 9", Check.loan(book, 1, "50+1:0"), 1);
        check.refused(book, "stage of loan 16", book.stage(16, 0), 1);
        check.refused(book, "cancel of loan 16", book.cancel(16), 1);
        check.answered(book, "count(3)", book.count(3), 16);
    }

    private static void sixteenLoans() {
        check.about("'there are .. 16 LOANS .. at most (.. from 0 on)'");
        Book book = lent();
        seventeenth(book);
        check.faulty(book, "a 6 ahead of the 9", Check.loan(book, 0, "47+1:0"), 6);
        check.answered(book, "count(4)", book.count(4), 16);
        check.answered(book, "busy(0)", book.busy(0), 32);
        for (int i = 0; i < 16; i++) {
            check.due("where(0, " + 3 * i + ")", book.where(0, 3 * i), i);
        }
    }

    private static void sixteenLoansThatStandNoMore() {
        check.about("'16 LOANS (those that STAND no more, too)'");
        Book book = lent();
        for (int i = 0; i < 16; i++) {
            check.answered(book, "cancel(" + i + ")", book.cancel(i), 15 - i);
        }
        seventeenth(book);
        check.answered(book, "count(4)", book.count(4), 0);
        check.answered(book, "busy(0)", book.busy(0), 0);
        Book fifteen = new Book();
        Check.thing(fifteen, "jar 7 7");
        Check.house(fifteen, "1 7 99 7");
        for (int i = 0; i < 16; i++) {
            check.taken(fifteen, "loan " + i, Check.loan(fifteen, 0, "0+1:0"), i);
            check.answered(fifteen, "cancel(" + i + ")", fifteen.cancel(i), 0);
        }
        check.full(fifteen, "loan 16", Check.loan(fifteen, 0, "0+1:0"));
    }

    // ---- reports ----

    private static void fortyNinth(Book book, int thing, int free, int told) {
        check.full(book, "report 48", Check.report(book, thing, free, "sound"));
        check.full(book, "report 48 with a harm", Check.report(book, thing, free, "tear 1 1"));
        check.refused(book, "damage of it", book.damage(thing, free), 1);
        check.faulty(book, "an 11 ahead of the 9", Check.report(book, thing, told, "sound"), 11);
        check.faulty(book, "a 9 of FAULTS ahead of the 9", Check.report(book, thing, free, "tear 1 0"), 9);
        check.faulty(book, "a 10 ahead of the 9", Check.report(book, thing, free, "tear 1 1,tear 1 1"), 10);
        check.wrong(book, "a 2 ahead of the 9", Check.report(book, thing, free, "tear 1"), 6);
        check.refused(book, "a 3 ahead of the 9", Check.report(book, thing, 1000, "sound"), 3);
        check.refused(book, "a 1 ahead of the 9", Check.report(book, 16, free, "sound"), 1);
        check.answered(book, "count(5)", book.count(5), 48);
    }

    private static void reportsOfOneThing() {
        check.about("'there are .. 48 REPORTS .. at most', of one THING");
        Book book = new Book();
        Check.thing(book, "jar 7 7");
        for (int i = 0; i < 48; i++) {
            // falling DAYS, so that each comes ahead of all others
            check.due("report " + i, Check.report(book, 0, 999 - i, "sound"), i + 1);
        }
        fortyNinth(book, 0, 951, 952);
        check.answered(book, "harms(0, 952)", book.harms(0, 952), 0);
        check.answered(book, "bearer(0, 952)", book.bearer(0, 952), -1);
    }

    private static void reportsOfAllThings() {
        check.about("'there are .. 48 REPORTS .. at most', of sixteen THINGS");
        Book book = new Book();
        for (int i = 0; i < 16; i++) {
            Check.thing(book, "jar 7 7");
        }
        for (int i = 0; i < 48; i++) {
            check.due("report " + i, Check.report(book, i % 16, i, "sound"), i / 16 + 1);
        }
        fortyNinth(book, 15, 99, 47);
        fortyNinth(book, 0, 99, 0);
    }

    // ---- pairs ----

    private static void pairsOfOneThing() {
        check.about("'48 pairs of a THING and a DAY for which appraise() told at most', of one THING");
        Book book = new Book();
        Check.thing(book, "jar 7 7");
        for (int i = 0; i < 48; i++) {
            check.answered(book, "appraise day " + (999 - i), book.appraise(0, 999 - i, i + 1), 7);
        }
        fortyNinthPair(book, 0, 951);
        for (int i = 0; i < 48; i++) {
            check.due("value(0, " + (999 - i) + ")", book.value(0, 999 - i), i + 1);
        }
        check.due("value(0, 951)", book.value(0, 951), 7);
    }

    private static void fortyNinthPair(Book book, int thing, int free) {
        int before = book.value(thing, free);
        check.refused(book, "appraise a new pair", book.appraise(thing, free, 5000), 9);
        check.refused(book, "appraise a new pair", book.appraise(thing, free, 1), 9);
        check.due("its value", book.value(thing, free), before);
        check.refused(book, "a 3 ahead of the 9", book.appraise(thing, free, 0), 3);
        check.refused(book, "a 3 ahead of the 9", book.appraise(thing, free, 10000), 3);
        check.refused(book, "a 3 ahead of the 9", book.appraise(thing, 1000, 5), 3);
        check.refused(book, "a 1 ahead of the 9", book.appraise(16, free, 5), 1);
        check.refused(book, "a 1 ahead of the 9", book.appraise(-1, free, 5), 1);
    }

    private static void pairsOfAllThings() {
        check.about("'48 pairs of a THING and a DAY for which appraise() told at most', of sixteen THINGS");
        Book book = new Book();
        for (int i = 0; i < 16; i++) {
            Check.thing(book, "jar 7 7");
        }
        for (int i = 0; i < 48; i++) {
            check.answered(book, "appraise " + i, book.appraise(i % 16, i, i + 100), i < 16 ? 7 : i + 84);
        }
        fortyNinthPair(book, 0, 1);
        fortyNinthPair(book, 15, 999);
        // the same DAY of another THING, the same THING on another DAY: other pairs
        fortyNinthPair(book, 1, 0);
    }

    private static void pairsToldAgain() {
        check.about("a pair that was told for has its room");
        Book book = new Book();
        Check.thing(book, "jar 7 7");
        Check.thing(book, "jar 7 7");
        for (int i = 1; i <= 60; i++) {
            check.answered(book, "the same pair again", book.appraise(0, 5, i), i == 1 ? 7 : i - 1);
        }
        for (int i = 0; i < 47; i++) {
            check.answered(book, "another pair", book.appraise(1, i, 8), i == 0 ? 7 : 8);
        }
        check.refused(book, "appraise pair 48", book.appraise(1, 47, 9), 9);
        check.answered(book, "appraise the first pair", book.appraise(0, 5, 70), 60);
        check.answered(book, "appraise the last pair", book.appraise(1, 46, 71), 8);
        check.answered(book, "value(0, 999)", book.value(0, 999), 70);
        check.answered(book, "value(1, 999)", book.value(1, 999), 71);
        check.refused(book, "appraise pair 48", book.appraise(1, 47, 9), 9);
        // a call that is refused tells for no pair
        Book bad = new Book();
        Check.thing(bad, "jar 7 7");
        for (int i = 0; i < 60; i++) {
            check.refused(bad, "appraise with a bad value", bad.appraise(0, i, i % 2 * 10000), 3);
        }
        for (int i = 0; i < 48; i++) {
            check.answered(bad, "appraise " + i, bad.appraise(0, i, 7), 7);
        }
        check.refused(bad, "appraise 48", bad.appraise(0, 48, 7), 9);
    }

    // ---- all kinds ----

    private static void oneKindLeavesRoomForTheOthers() {
        check.about("each kind has a room of its own");
        Book book = new Book();
        for (int i = 0; i < 16; i++) {
            Check.thing(book, "jar 7 7");
        }
        for (int i = 0; i < 6; i++) {
            Check.house(book, "1 112 9999 7");
        }
        for (int i = 0; i < 8; i++) {
            Check.courier(book, "0-9");
        }
        for (int i = 0; i < 48; i++) {
            Check.report(book, i % 16, i, "sound");
        }
        for (int i = 0; i < 48; i++) {
            book.appraise(i % 16, i, 9);
        }
        for (int i = 0; i < 16; i++) {
            Check.loan(book, 0, i * 3 + "+1:0,1,2,3,4,5,6,7,8,9,10,11,12,13,14,15");
        }
        int[] counts = {16, 6, 8, 16, 16, 48, 0};
        for (int what = 0; what < counts.length; what++) {
            check.answered(book, "count(" + what + ")", book.count(what), counts[what]);
        }
        check.refused(book, "appraise", book.appraise(0, 999, 9), 9);
        check.full(book, "thing", Check.thing(book, "jar 7 7"));
        check.full(book, "report", Check.report(book, 0, 999, "sound"));
    }

    private static void lastCallOfAll() {
        check.about("'An object is used for at most 512 calls', and the 512th is answered, too");
        Book book = new Book();
        Check.thing(book, "jar 7 7");
        Check.thing(book, "jar 9 7");
        while (book.callsLeft() > 4) {
            check.due("value(0, 0)", book.value(0, 0), 7);
        }
        Check.tell(book, "jar 8 7");
        check.due("the 511th call", book.thing(), 2);
        check.due("the 512th call", book.value(2, 0), 8);
        check.due("calls left", book.callsLeft(), 0);
    }
}
