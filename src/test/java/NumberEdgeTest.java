import java.util.ArrayList;
import java.util.List;

/** The numbers that calls are given: of each the last one that is taken and the first that is refused, at both ends. */
public final class NumberEdgeTest {
    private static final int FAR_BELOW = Integer.MIN_VALUE;
    private static final int FAR_ABOVE = Integer.MAX_VALUE;
    private static final Check check = new Check();

    /** A call that is given a number and a DAY. */
    interface Ask {
        int of(Book book, int number, int day);
    }

    record Call(String name, Ask ask) { }

    public static void main(String[] args) {
        daysOfThings();
        daysOfReports();
        daysOfCouriers();
        daysOfLoans();
        daysTold();
        valuesTold();
        lengths();
        bothDaysOfAPremium();
        kindsOfCounts();
        kindsOfLetters();
        ways();
        numbersOfThings();
        numbersOfHouses();
        numbersOfCouriers();
        numbersOfLoans();
        numbersOfParcels();
        placesInARow();
        check.close();
    }

    /** Two of all, and THING 1 has REPORTS of the DAYS 0 and 999; LOAN 1 has THING 1 and the DAYS 10 to 15. */
    private static Book book() {
        Book book = new Book();
        Check.thing(book, "jar 7 7");
        Check.thing(book, "jar 8 7");
        Check.house(book, "1 7 99 7");
        Check.house(book, "2 9 99 7");
        Check.courier(book, "0-999");
        Check.courier(book, "0-999");
        Check.loan(book, 0, "0+1:0");
        Check.loan(book, 1, "10+2:1");
        Check.report(book, 1, 0, "sound");
        Check.report(book, 1, 999, "sound");
        return book;
    }

    /** Each call is asked of number 1 of two, and of the DAYS around 0 and 999. */
    private static void days(List<Call> calls) {
        for (Call call : calls) {
            for (int day : new int[] {0, 999}) {
                Book book = book();
                call.ask.of(book, 1, day);
                check.due("status() behind " + call.name + " of day " + day, book.status(), 0);
            }
            for (int day : new int[] {FAR_BELOW, -1000, -1, 1000, 1001, FAR_ABOVE}) {
                Book book = book();
                check.refused(book, call.name + " of day " + day, call.ask.of(book, 1, day), 3);
            }
            for (int number : new int[] {FAR_BELOW, -1, 2, FAR_ABOVE}) {
                for (int day : new int[] {-1, 0, 999, 1000}) {
                    Book book = book();
                    check.refused(book, call.name + " of " + number + ", " + day, call.ask.of(book, number, day), 1);
                }
            }
        }
    }

    private static List<Call> calls(Object... namesAndAsks) {
        List<Call> calls = new ArrayList<>();
        for (int i = 0; i < namesAndAsks.length; i += 2) {
            calls.add(new Call((String) namesAndAsks[i], (Ask) namesAndAsks[i + 1]));
        }
        return calls;
    }

    private static Ask ask(Ask ask) {
        return ask;
    }

    private static void daysOfThings() {
        check.about("'DAYS are 0 .. 999', '3: no DAY', of a THING");
        days(calls("value", ask((b, n, d) -> b.value(n, d)), "where", ask((b, n, d) -> b.where(n, d)),
            "free", ask((b, n, d) -> b.free(n, d, 1)), "harms", ask((b, n, d) -> b.harms(n, d)),
            "appraise", ask((b, n, d) -> b.appraise(n, d, 5))));
    }

    private static void daysOfReports() {
        check.about("'DAYS are 0 .. 999', '3: no DAY', of a REPORT");
        days(calls("note", ask((b, n, d) -> b.note(n, d, 0)), "damage", ask((b, n, d) -> b.damage(n, d)),
            "bearer", ask((b, n, d) -> b.bearer(n, d))));
        for (int day : new int[] {0, 999}) {
            Book book = book();
            check.taken(book, "report of day " + day, Check.report(book, 0, day, "sound"), 1);
        }
        for (int day : new int[] {FAR_BELOW, -1, 1000, FAR_ABOVE}) {
            Book book = book();
            check.refused(book, "report of day " + day, Check.report(book, 0, day, "sound"), 3);
            check.answered(book, "count(5)", book.count(5), 2);
            check.refused(book, "report of no thing, day " + day, Check.report(book, 2, day, "sound"), 1);
        }
    }

    private static void daysOfCouriers() {
        check.about("'DAYS are 0 .. 999', '3: no DAY', of a COURIER");
        days(calls("with", ask((b, n, d) -> b.with(n, d)), "ready", ask((b, n, d) -> b.ready(n, d, 1))));
    }

    private static void daysOfLoans() {
        check.about("'DAYS are 0 .. 999', '3: no DAY', of a LOAN");
        days(calls("stage", ask((b, n, d) -> b.stage(n, d)), "cost", ask((b, n, d) -> b.cost(n, d)),
            "premium", ask((b, n, d) -> b.premium(n, d, d))));
    }

    private static void daysTold() {
        check.about("what is told for the first and the last DAY is kept");
        Book book = book();
        check.answered(book, "appraise day 999", book.appraise(0, 999, 50), 7);
        check.answered(book, "value(0, 998)", book.value(0, 998), 7);
        check.answered(book, "value(0, 999)", book.value(0, 999), 50);
        check.answered(book, "appraise day 0", book.appraise(0, 0, 60), 7);
        check.answered(book, "value(0, 0)", book.value(0, 0), 60);
        check.answered(book, "value(0, 998)", book.value(0, 998), 60);
        check.answered(book, "value(0, 999)", book.value(0, 999), 50);
        check.answered(book, "where(0, 0)", book.where(0, 0), 0);
        check.taken(book, "a loan up to day 999", Check.loan(book, 0, "997+1:0"), 2);
        check.answered(book, "where(0, 999)", book.where(0, 999), 2);
        check.answered(book, "stage(2, 999)", book.stage(2, 999), 3);
        check.answered(book, "stage(0, 0)", book.stage(0, 0), 1);
        check.answered(book, "cost(2, 999)", book.cost(2, 999), 50 * 7 * 3 * 10);
        check.answered(book, "cost(0, 0)", book.cost(0, 0), 60 * 7 * 3 * 10);
    }

    private static void valuesTold() {
        check.about("'3: .. the value is not from 1 to 9999'");
        Book book = book();
        for (int value : new int[] {FAR_BELOW, -1, 0, 10000, FAR_ABOVE}) {
            check.refused(book, "appraise to " + value, book.appraise(0, 5, value), 3);
            check.answered(book, "value(0, 5)", book.value(0, 5), 7);
        }
        check.answered(book, "appraise to 1", book.appraise(0, 5, 1), 7);
        check.answered(book, "appraise to 9999", book.appraise(0, 5, 9999), 1);
        check.answered(book, "value(0, 5)", book.value(0, 5), 9999);
        check.refused(book, "appraise to 10000", book.appraise(0, 5, 10000), 3);
        check.answered(book, "value(0, 5)", book.value(0, 5), 9999);
    }

    private static void lengths() {
        check.about("'3: .. days is not from 1 to 1000', and '-1: there is none'");
        Book book = book();
        Check.thing(book, "jar 7 7");
        for (int days : new int[] {FAR_BELOW, -1, 0, 1001, FAR_ABOVE}) {
            check.refused(book, "free of " + days, book.free(2, 0, days), 3);
            check.refused(book, "free of " + days + " from 999", book.free(2, 999, days), 3);
            check.refused(book, "ready of " + days, book.ready(1, 0, days), 3);
            check.refused(book, "ready of " + days + " from 999", book.ready(1, 999, days), 3);
        }
        int[][] asked = {{0, 1, 0}, {0, 999, 0}, {0, 1000, 0}, {1, 999, 1}, {1, 1000, -1}, {999, 1, 999}, {999, 2, -1},
            {999, 1000, -1}, {998, 2, 998}, {998, 3, -1}, {500, 500, 500}, {500, 501, -1}};
        for (int[] one : asked) {
            String of = one[1] + " days from " + one[0];
            check.answered(book, "free of " + of, book.free(2, one[0], one[1]), one[2]);
            check.answered(book, "ready of " + of, book.ready(1, one[0], one[1]), one[2]);
        }
    }

    private static void bothDaysOfAPremium() {
        check.about("'3: a or b is no DAY, or a is above b'");
        Book book = book();
        check.answered(book, "premium(1, 0, 0)", book.premium(1, 0, 0), 0);
        check.answered(book, "premium(1, 0, 999)", book.premium(1, 0, 999), 0);
        check.answered(book, "premium(1, 999, 999)", book.premium(1, 999, 999), 0);
        check.answered(book, "premium(1, 12, 12)", book.premium(1, 12, 12), 0);
        check.answered(book, "premium(1, 12, 13)", book.premium(1, 12, 13), 0);
        check.refused(book, "premium(1, 13, 12)", book.premium(1, 13, 12), 3);
        check.refused(book, "premium(1, 999, 998)", book.premium(1, 999, 998), 3);
        check.refused(book, "premium(1, 999, 0)", book.premium(1, 999, 0), 3);
        for (int far : new int[] {FAR_BELOW, -1, 1000, FAR_ABOVE}) {
            check.refused(book, "premium(1, " + far + ", 5)", book.premium(1, far, 5), 3);
            check.refused(book, "premium(1, 5, " + far + ")", book.premium(1, 5, far), 3);
            check.refused(book, "premium(1, far, far)", book.premium(1, far, far), 3);
            check.refused(book, "premium of no loan", book.premium(2, far, 5), 1);
        }
    }

    private static void kindsOfCounts() {
        check.about("count(): 'THINGS (0), .. bytes of the TAPE (6). 3.'");
        Book book = book();
        for (int what : new int[] {FAR_BELOW, -1, 7, 8, FAR_ABOVE}) {
            check.refused(book, "count(" + what + ")", book.count(what), 3);
        }
        check.answered(book, "count(0)", book.count(0), 2);
        check.answered(book, "count(6)", book.count(6), 0);
    }

    private static void kindsOfLetters() {
        check.about("letter(): '3: what is none of these; 1.'");
        Book book = book();
        for (int what : new int[] {FAR_BELOW, -1, 3, 4, FAR_ABOVE}) {
            check.refused(book, "letter(" + what + ", 0, 0)", book.letter(what, 0, 0), 3);
            check.refused(book, "letter(" + what + ", 9, -1)", book.letter(what, 9, -1), 3);
        }
        char[] first = {'j', '2', '0'};
        for (int what = 0; what <= 2; what++) {
            check.answered(book, "letter(" + what + ", 1, 0)", book.letter(what, 1, 0), first[what]);
            for (int number : new int[] {FAR_BELOW, -1, 2, FAR_ABOVE}) {
                check.refused(book, "letter(" + what + ", " + number + ", 0)", book.letter(what, number, 0), 1);
            }
        }
    }

    private static void ways() {
        check.about("guard(): 'way OUT (0), BACK (1)', '1; 3.'");
        Book book = book();
        for (int way : new int[] {FAR_BELOW, -1, 2, FAR_ABOVE}) {
            check.refused(book, "guard of way " + way, book.guard(1, 0, way), 3);
            check.refused(book, "guard of no loan, way " + way, book.guard(2, 0, way), 1);
            check.refused(book, "guard of no parcel, way " + way, book.guard(1, 1, way), 1);
        }
        check.answered(book, "guard of way 0", book.guard(1, 0, 0), -1);
        check.answered(book, "guard of way 1", book.guard(1, 0, 1), -1);
    }

    private static void numbersOfThings() {
        check.about("'1 no such THING'");
        Book book = book();
        for (int thing : new int[] {FAR_BELOW, -1, 2, FAR_ABOVE}) {
            check.refused(book, "together(" + thing + ", 0)", book.together(thing, 0), 1);
            check.refused(book, "together(0, " + thing + ")", book.together(0, thing), 1);
            check.refused(book, "together of it with itself", book.together(thing, thing), 1);
            check.refused(book, "parcel(1, " + thing + ")", book.parcel(1, thing), 1);
            check.refused(book, "report(" + thing + ", 5)", Check.report(book, thing, 5, "sound"), 1);
        }
        check.answered(book, "together(1, 1)", book.together(1, 1), 1);
        check.answered(book, "parcel(1, 1)", book.parcel(1, 1), 0);
        check.refused(book, "parcel(1, 0): the LOAN has not this THING", book.parcel(1, 0), 1);
        check.refused(book, "parcel(0, 1): the LOAN has not this THING", book.parcel(0, 1), 1);
        Book none = new Book();
        check.refused(none, "value(0, 0) without THINGS", none.value(0, 0), 1);
        check.refused(none, "together(0, 0) without THINGS", none.together(0, 0), 1);
        check.refused(none, "letter(0, 0, 0) without THINGS", none.letter(0, 0, 0), 1);
    }

    private static void numbersOfHouses() {
        check.about("'1 no such .. HOUSE'");
        for (int house : new int[] {FAR_BELOW, -1, 2, FAR_ABOVE}) {
            Book book = book();
            check.refused(book, "loan(" + house + ")", Check.loan(book, house, "50+1:0"), 1);
            check.answered(book, "count(3)", book.count(3), 2);
            check.answered(book, "count(6)", book.count(6), 0);
        }
        for (int house = 0; house < 2; house++) {
            Book book = book();
            check.taken(book, "loan(" + house + ")", Check.loan(book, house, "50+1:0"), 2);
        }
        Book none = new Book();
        check.refused(none, "loan(0) without HOUSES", Check.loan(none, 0, "50+1:0"), 1);
        check.refused(none, "letter(1, 0, 0) without HOUSES", none.letter(1, 0, 0), 1);
    }

    private static void numbersOfCouriers() {
        check.about("'1 no such .. COURIER'");
        Book book = book();
        for (int courier : new int[] {FAR_BELOW, -1, 2, FAR_ABOVE}) {
            check.refused(book, "busy(" + courier + ")", book.busy(courier), 1);
        }
        check.answered(book, "busy(0)", book.busy(0), 0);
        check.answered(book, "busy(1)", book.busy(1), 0);
        Book none = new Book();
        check.refused(none, "busy(0) without COURIERS", none.busy(0), 1);
        check.refused(none, "letter(2, 0, 0) without COURIERS", none.letter(2, 0, 0), 1);
    }

    private static void goneLoan(Book book, int loan) {
        String of = "(" + loan + ")";
        check.refused(book, "parcels" + of, book.parcels(loan), 1);
        check.refused(book, "dearest" + of, book.dearest(loan), 1);
        check.refused(book, "charge" + of, book.charge(loan), 1);
        check.refused(book, "stage" + of, book.stage(loan, 10), 1);
        check.refused(book, "parcel" + of, book.parcel(loan, 1), 1);
        check.refused(book, "weight" + of, book.weight(loan, 0), 1);
        check.refused(book, "guard" + of, book.guard(loan, 0, 0), 1);
        check.refused(book, "cost" + of, book.cost(loan, 10), 1);
        check.refused(book, "premium" + of, book.premium(loan, 0, 999), 1);
        check.refused(book, "cancel" + of, book.cancel(loan), 1);
    }

    private static void numbersOfLoans() {
        check.about("'1 no such .. LOAN (also if it STANDS no more)'");
        for (int loan : new int[] {FAR_BELOW, -1, 2, FAR_ABOVE}) {
            goneLoan(book(), loan);
        }
        Book none = new Book();
        goneLoan(none, 0);
        Book book = book();
        check.answered(book, "parcels(0)", book.parcels(0), 1);
        check.answered(book, "dearest(1)", book.dearest(1), 10);
        check.answered(book, "charge(1)", book.charge(1), 0);
        check.answered(book, "cancel(0)", book.cancel(0), 1);
        goneLoan(book, 0);
        check.answered(book, "parcels(1)", book.parcels(1), 1);
        check.answered(book, "cancel(1)", book.cancel(1), 0);
        goneLoan(book, 1);
        goneLoan(book, 0);
    }

    private static void numbersOfParcels() {
        check.about("'1 no such .. PARCEL'");
        Book book = book();
        Check.thing(book, "jar 7 9");
        Check.thing(book, "jar 7 1");
        check.taken(book, "two parcels", Check.loan(book, 1, "50+1:2,3"), 2);
        check.answered(book, "weight(2, 0)", book.weight(2, 0), 9);
        check.answered(book, "weight(2, 1)", book.weight(2, 1), 1);
        check.answered(book, "guard(2, 1, 0)", book.guard(2, 1, 0), -1);
        for (int parcel : new int[] {FAR_BELOW, -1, 2, FAR_ABOVE}) {
            check.refused(book, "weight(2, " + parcel + ")", book.weight(2, parcel), 1);
            check.refused(book, "guard(2, " + parcel + ", 0)", book.guard(2, parcel, 0), 1);
            check.refused(book, "guard(2, " + parcel + ", 1)", book.guard(2, parcel, 1), 1);
        }
        // another LOAN has fewer of them
        check.answered(book, "weight(1, 0)", book.weight(1, 0), 7);
        check.refused(book, "weight(1, 1)", book.weight(1, 1), 1);
    }

    private static void placesInARow() {
        check.about("'no such place in a row', 'no such byte'");
        Book book = book();
        String[] written = {"jar 8 7", "2 9 99 7", "0-999"};
        for (int what = 0; what <= 2; what++) {
            int last = written[what].length() - 1;
            check.answered(book, "the first byte", book.letter(what, 1, 0), written[what].charAt(0));
            check.answered(book, "the last byte", book.letter(what, 1, last), written[what].charAt(last));
            for (int k : new int[] {FAR_BELOW, -1, last + 1, last + 2, FAR_ABOVE}) {
                check.refused(book, "letter(" + what + ", 1, " + k + ")", book.letter(what, 1, k), 1);
            }
        }
        check.answered(book, "the first byte", book.note(1, 5, 0), 's');
        check.answered(book, "the last byte", book.note(1, 5, 4), 'd');
        for (int k : new int[] {FAR_BELOW, -1, 5, 6, FAR_ABOVE}) {
            check.refused(book, "note(1, 5, " + k + ")", book.note(1, 5, k), 1);
        }
    }
}
