import java.util.ArrayList;
import java.util.List;
import java.util.function.Consumer;
import java.util.function.ToIntFunction;

/**
 * Terms 7: of several the first as told with the call, and a refused call changes nothing else. For that, a Book that
 * was refused a call is asked about everything, and so is its twin that never made this call.
 */
public final class RefusalTest {
    private static final int BAD = Check.BAD;
    private static final int ENDING = 60;
    private static final int[] DAYS = {0, 4, 5, 6, 9, 10, 12, 14, 15, 16, 20, 30, 31, 36, 60, 99, 496, 503, 900, 999};
    private static final Check check = new Check();
    private static final List<Question> QUESTIONS = new ArrayList<>();

    record Question(String call, ToIntFunction<Book> ask) { }

    public static void main(String[] args) {
        orderOfTelling();
        orderOfAsking();
        textsThatAreNotRead();
        fillQuestions();
        allWasTold();
        tapeCallsLeaveAll();
        appraiseAndCancelLeaveAll();
        askingLeavesAll();
        textsRefusedLeaveAll();
        loansRefusedLeaveAll();
        reportsRefusedLeaveAll();
        fullBookLeavesAll();
        answeredQuestionsLeaveAll();
        check.close();
    }

    /** Four THINGS, two HOUSES, two COURIERS, LOANS 0 and 1 that STAND and 2 that does not, REPORTS, and values told. */
    private static void tellMuch(Book book) {
        Check.thing(book, "jar 1000 50");
        Check.thing(book, "jar 300 40 not skin");
        Check.thing(book, "skin 200 30");
        Check.thing(book, "book 900 20");
        Check.house(book, "2 100 500 7");
        Check.house(book, "1 45 0 3");
        Check.courier(book, "0-500");
        Check.courier(book, "0-99, 200-300");
        book.appraise(0, 12, 1500);
        book.appraise(1, 5, 250);
        book.appraise(2, 900, 1);
        Check.loan(book, 0, "10+5:0,1,2");
        Check.loan(book, 1, "30+3:3");
        Check.loan(book, 0, "50+2:0");
        book.cancel(2);
        Check.report(book, 0, 5, "tear 1 5");
        Check.report(book, 0, 15, "tear 1 9, loss 2 1");
        Check.report(book, 1, 5, "sound");
        Check.report(book, 1, 14, "stain 3 3");
        Check.report(book, 3, 9, "sound");
        Check.report(book, 3, 31, "crack 5 50");
        Check.report(book, 3, 60, "crack 5 80");
        Check.house(book, "0 1 1 1");
    }

    private static void tellAllThatHasRoom(Book book) {
        for (int i = 0; i < 16; i++) {
            Check.thing(book, "jar " + (i + 1) + " 7");
        }
        for (int i = 0; i < 6; i++) {
            Check.house(book, "2 7 0 7");
        }
        for (int i = 0; i < 8; i++) {
            Check.courier(book, "0-500");
        }
        for (int i = 0; i < 16; i++) {
            Check.loan(book, 0, 9 * i + "+3:0");
        }
        book.cancel(15);
        for (int i = 0; i < 48; i++) {
            Check.report(book, i % 3, i, "tear 1 " + (i + 1));
        }
        for (int i = 0; i < 48; i++) {
            book.appraise(i % 3, i, i + 1);
        }
    }

    private static void allWasTold() {
        check.about("what the refused calls below rest on");
        Book much = new Book();
        tellMuch(much);
        Book all = new Book();
        tellAllThatHasRoom(all);
        int[] counts = {4, 2, 2, 3, 2, 7, 0};
        int[] most = {16, 6, 8, 16, 15, 48, 0};
        for (int what = 0; what < counts.length; what++) {
            check.answered(much, "count(" + what + ")", much.count(what), counts[what]);
            check.answered(all, "count(" + what + ")", all.count(what), most[what]);
        }
    }

    // ---- which refusal is told ----

    private static void orderOfTelling() {
        check.about("'Of several the first as told with the call', of calls that tell");
        Book book = new Book();
        tellMuch(book);
        check.refused(book, "loan: 1 ahead of 2", Check.loan(book, 2, "#"), 1);
        check.refused(book, "loan: 1 ahead of 4", Check.loan(book, -1, "0+0:0"), 1);
        check.refused(book, "loan: 2 ahead of 4", Check.loan(book, 0, "0+0:0,"), 2);
        check.refused(book, "report: 1 ahead of 3", Check.report(book, 4, 1000, "sound"), 1);
        check.refused(book, "report: 1 ahead of 2", Check.report(book, 4, 5, "#"), 1);
        check.refused(book, "report: 1 ahead of 3 and 2", Check.report(book, -1, -1, "#"), 1);
        check.refused(book, "report: 1 ahead of 4", Check.report(book, 4, 5, "tear 100 1"), 1);
        check.refused(book, "report: 3 ahead of 2", Check.report(book, 0, 1000, "#"), 3);
        check.refused(book, "report: 3 ahead of 4", Check.report(book, 0, -1, "tear 100 1"), 3);
        check.refused(book, "report: 2 ahead of 4", Check.report(book, 0, 5, "tear 100 1,"), 2);
        check.refused(book, "thing: 2 ahead of 4", Check.thing(book, "jar 0 1 not"), 2);
        check.refused(book, "house: 2 ahead of 4", Check.house(book, "0 1 1 1 1"), 2);
        check.refused(book, "courier: 2 ahead of 4", Check.courier(book, "5-1,"), 2);
        check.refused(book, "appraise: 1 ahead of 3", book.appraise(4, 1000, 5), 1);
        check.refused(book, "appraise: 1 ahead of 3", book.appraise(4, 5, 0), 1);
        check.refused(book, "appraise: 1 ahead of 3", book.appraise(-1, -1, 10000), 1);
    }

    private static void orderOfAsking() {
        check.about("'Of several the first as told with the call', of calls that ask");
        Book book = new Book();
        tellMuch(book);
        check.refused(book, "value", book.value(4, 1000), 1);
        check.refused(book, "where", book.where(4, 1000), 1);
        check.refused(book, "free, day", book.free(4, 1000, 1), 1);
        check.refused(book, "free, days", book.free(4, 0, 0), 1);
        check.refused(book, "stage", book.stage(2, 1000), 1);
        check.refused(book, "guard, no LOAN", book.guard(2, 0, 2), 1);
        check.refused(book, "guard, no PARCEL", book.guard(0, 9, 2), 1);
        check.refused(book, "guard, the way alone", book.guard(0, 0, 2), 3);
        check.refused(book, "with", book.with(2, 1000), 1);
        check.refused(book, "ready, day", book.ready(2, 1000, 1), 1);
        check.refused(book, "ready, days", book.ready(2, 0, 1001), 1);
        check.refused(book, "cost", book.cost(2, 1000), 1);
        check.refused(book, "premium, day", book.premium(2, 0, 1000), 1);
        check.refused(book, "premium, order", book.premium(2, 5, 4), 1);
        check.refused(book, "harms", book.harms(4, 1000), 1);
        check.refused(book, "note, no THING", book.note(4, 1000, -1), 1);
        check.refused(book, "note, no DAY ahead of no byte", book.note(0, 1000, -1), 3);
        check.refused(book, "note, no DAY", book.note(0, -1, 0), 3);
        check.refused(book, "note, no REPORT", book.note(0, 4, 0), 1);
        check.refused(book, "damage, no THING", book.damage(4, 1000), 1);
        check.refused(book, "damage, no DAY", book.damage(0, 1000), 3);
        check.refused(book, "damage, no REPORT", book.damage(0, 6), 1);
        check.refused(book, "bearer, no THING", book.bearer(4, 1000), 1);
        check.refused(book, "bearer, no DAY", book.bearer(0, 1000), 3);
        check.refused(book, "bearer, no REPORT", book.bearer(0, 6), 1);
        check.refused(book, "letter, what", book.letter(3, 99, -1), 3);
        check.refused(book, "letter, what", book.letter(-1, 99, -1), 3);
        check.refused(book, "letter, number", book.letter(2, 2, 0), 1);
    }

    private static void textsThatAreNotRead() {
        check.about("'refused by a 1 or a 3 they read no text', 'The TAPE is empty behind', 'taken or refused, by whatever'");
        String[] texts = {"", "#", "0+0:0", "600+1:0", "tear 100 1", "sound", " ".repeat(120)};
        for (String text : texts) {
            Book book = new Book();
            tellMuch(book);
            Check.house(book, "1 2 #");
            check.refused(book, "loan(2)", Check.loan(book, 2, text), 1);
            notRead(book, 4, 0);
            check.refused(book, "report(4, 0)", Check.report(book, 4, 0, text), 1);
            notRead(book, 4, 0);
            check.refused(book, "report(0, 1000)", Check.report(book, 0, 1000, text), 3);
            notRead(book, 4, 0);
            Check.house(book, "0 1 1 1");
            check.refused(book, "loan(-1)", Check.loan(book, -1, text), 1);
            notRead(book, BAD, 3);
            check.refused(book, "report(0, -1)", Check.report(book, 0, -1, text), 3);
            notRead(book, BAD, 3);
        }
    }

    private static void notRead(Book book, int place, int fault) {
        check.due("place()", book.place(), place);
        check.due("fault()", book.fault(), fault);
        check.due("count(6)", book.count(6), 0);
    }

    // ---- what there is to ask ----

    private static void question(String call, ToIntFunction<Book> ask) {
        QUESTIONS.add(new Question(call, ask));
    }

    private static void fillQuestions() {
        question("place()", Book::place);
        question("fault()", Book::fault);
        question("home()", Book::home);
        for (int i = 0; i <= 6; i++) {
            int what = i;
            question("count(" + what + ")", b -> b.count(what));
        }
        for (int i = 0; i < 4; i++) {
            ofThing(i);
            ofLoan(i);
        }
        for (int i = 0; i < 3; i++) {
            ofCourier(i);
        }
        for (int day : DAYS) {
            question("value(15, " + day + ")", b -> b.value(15, day));
            question("where(15, " + day + ")", b -> b.where(15, day));
            question("stage(15, " + day + ")", b -> b.stage(15, day));
        }
        for (int k = 0; k < 60; k++) {
            int what = k % 3;
            int number = k / 3 % 4;
            int at = k / 12 * 3;
            question("letter(" + what + ", " + number + ", " + at + ")", b -> b.letter(what, number, at));
        }
    }

    private static void ofThing(int thing) {
        for (int day : DAYS) {
            String of = "(" + thing + ", " + day + ")";
            question("value" + of, b -> b.value(thing, day));
            question("where" + of, b -> b.where(thing, day));
            question("free" + of, b -> b.free(thing, day, 5));
            question("harms" + of, b -> b.harms(thing, day));
            question("note" + of, b -> b.note(thing, day, 7));
            question("damage" + of, b -> b.damage(thing, day));
            question("bearer" + of, b -> b.bearer(thing, day));
        }
        for (int i = 0; i < 4; i++) {
            int other = i;
            question("together(" + thing + ", " + other + ")", b -> b.together(thing, other));
        }
    }

    private static void ofLoan(int loan) {
        for (int day : DAYS) {
            question("stage(" + loan + ", " + day + ")", b -> b.stage(loan, day));
            question("cost(" + loan + ", " + day + ")", b -> b.cost(loan, day));
        }
        question("premium(" + loan + ")", b -> b.premium(loan, 0, 999));
        question("dearest(" + loan + ")", b -> b.dearest(loan));
        question("charge(" + loan + ")", b -> b.charge(loan));
        question("parcels(" + loan + ")", b -> b.parcels(loan));
        for (int i = 0; i < 4; i++) {
            int at = i;
            question("parcel(" + loan + ", " + at + ")", b -> b.parcel(loan, at));
            question("weight(" + loan + ", " + at + ")", b -> b.weight(loan, at));
            question("guard(" + loan + ", " + at + ", 0)", b -> b.guard(loan, at, 0));
            question("guard(" + loan + ", " + at + ", 1)", b -> b.guard(loan, at, 1));
        }
    }

    private static void ofCourier(int courier) {
        question("busy(" + courier + ")", b -> b.busy(courier));
        for (int day : DAYS) {
            question("with(" + courier + ", " + day + ")", b -> b.with(courier, day));
            question("ready(" + courier + ", " + day + ")", b -> b.ready(courier, day, 4));
        }
    }

    /** What is told next is answered alike, too. */
    private static List<Integer> tellOn(Book book) {
        List<Integer> answers = new ArrayList<>();
        answers.add(book.thing());
        answers.add(book.place());
        answers.add(Check.thing(book, "jar 5 5"));
        answers.add(Check.house(book, "1 500 0 7"));
        answers.add(Check.courier(book, "1-7"));
        answers.add(Check.loan(book, 0, "400+5:0,1"));
        answers.add(book.with(0, 400));
        answers.add(book.with(1, 400));
        answers.add(Check.report(book, 0, 401, "loss 1 1"));
        answers.add(book.damage(0, 401));
        answers.add(book.appraise(0, 402, 5));
        answers.add(book.appraise(0, 403, 6));
        answers.add(book.cancel(0));
        answers.add(book.status());
        return answers;
    }

    // ---- a refused call changes nothing else ----

    /** Of a Book that was told all this, and is refused the call by that STATUS; it read a text, or did not. */
    private static void leaves(Consumer<Book> told, String call, ToIntFunction<Book> refused, int status, boolean read) {
        int next = 0;
        while (next < QUESTIONS.size()) {
            Book book = new Book();
            Book twin = new Book();
            told.accept(book);
            told.accept(twin);
            check.refused(book, call, refused.applyAsInt(book), status);
            for (; next < QUESTIONS.size() && book.callsLeft() > ENDING; next++) {
                Question asked = QUESTIONS.get(next);
                boolean isOfTexts = asked.call.equals("place()") || asked.call.equals("fault()");
                if (!read || !isOfTexts) {
                    check.due(asked.call + " behind " + call, asked.ask.applyAsInt(book), asked.ask.applyAsInt(twin));
                }
            }
            check.due("what is told behind " + call, tellOn(book).equals(tellOn(twin)) ? 1 : 0, 1);
        }
    }

    private static Consumer<Book> muchAndTape(String text) {
        return book -> {
            tellMuch(book);
            Check.tell(book, text);
        };
    }

    private static void tapeCallsLeaveAll() {
        check.about("a refused feed() or end() changes nothing else");
        String longest = "jar 3 3" + " ".repeat(113);
        leaves(muchAndTape(longest), "feed", b -> b.feed(0x23232323, 1, 2, 3, 4), 9, false);
        leaves(muchAndTape(longest.substring(0, 101)), "feed", b -> b.feed(0x23232323, 1, 2, 3, 4), 9, false);
        leaves(muchAndTape(longest), "end(121)", b -> b.end(121), 3, false);
        leaves(muchAndTape("jar 3 3"), "end(8)", b -> b.end(8), 3, false);
        leaves(muchAndTape("jar 3 3"), "end(-1)", b -> b.end(-1), 3, false);
    }

    private static void appraiseAndCancelLeaveAll() {
        check.about("a refused appraise() or cancel() changes nothing else");
        Consumer<Book> much = muchAndTape("jar 3 3");
        leaves(much, "appraise(4, 5, 5)", b -> b.appraise(4, 5, 5), 1, false);
        leaves(much, "appraise(-1, 5, 5)", b -> b.appraise(-1, 5, 5), 1, false);
        leaves(much, "appraise(0, -1, 5)", b -> b.appraise(0, -1, 5), 3, false);
        leaves(much, "appraise(0, 1000, 5)", b -> b.appraise(0, 1000, 5), 3, false);
        leaves(much, "appraise(0, 12, 0)", b -> b.appraise(0, 12, 0), 3, false);
        leaves(much, "appraise(0, 12, 10000)", b -> b.appraise(0, 12, 10000), 3, false);
        leaves(much, "cancel(2)", b -> b.cancel(2), 1, false);
        leaves(much, "cancel(3)", b -> b.cancel(3), 1, false);
        leaves(much, "cancel(-1)", b -> b.cancel(-1), 1, false);
    }

    private static void askingLeavesAll() {
        check.about("a refused question changes nothing else");
        Consumer<Book> much = muchAndTape("jar 3 3");
        leaves(much, "count(7)", b -> b.count(7), 3, false);
        leaves(much, "value", b -> b.value(4, 0), 1, false);
        leaves(much, "together", b -> b.together(0, 4), 1, false);
        leaves(much, "where", b -> b.where(0, 1000), 3, false);
        leaves(much, "free", b -> b.free(0, 0, 0), 3, false);
        leaves(much, "stage", b -> b.stage(2, 50), 1, false);
        leaves(much, "parcels", b -> b.parcels(3), 1, false);
        leaves(much, "parcel", b -> b.parcel(0, 3), 1, false);
        leaves(much, "weight", b -> b.weight(0, 3), 1, false);
        leaves(much, "guard", b -> b.guard(0, 0, 2), 3, false);
        leaves(much, "busy", b -> b.busy(2), 1, false);
        leaves(much, "with", b -> b.with(0, 1000), 3, false);
        leaves(much, "ready", b -> b.ready(0, 0, 1001), 3, false);
        leaves(much, "cost", b -> b.cost(0, -1), 3, false);
        leaves(much, "premium", b -> b.premium(0, 11, 10), 3, false);
        leaves(much, "dearest", b -> b.dearest(2), 1, false);
        leaves(much, "harms", b -> b.harms(4, 0), 1, false);
        leaves(much, "note", b -> b.note(0, 15, 99), 1, false);
        leaves(much, "damage", b -> b.damage(0, 6), 1, false);
        leaves(much, "bearer", b -> b.bearer(0, 6), 1, false);
        leaves(much, "charge", b -> b.charge(2), 1, false);
        leaves(much, "letter", b -> b.letter(0, 0, 11), 1, false);
    }

    private static void textsRefusedLeaveAll() {
        check.about("a refused thing(), house() or courier() changes nothing else");
        Consumer<Book> much = RefusalTest::tellMuch;
        leaves(much, "a WRONG thing", b -> Check.thing(b, "jar 7 7 not"), 2, true);
        leaves(much, "a thing of FAULT 1", b -> Check.thing(b, "jar 0 7"), 4, true);
        leaves(much, "a thing of FAULT 2", b -> Check.thing(b, "jar 7 7 not jar not jar"), 4, true);
        leaves(much, "a WRONG house", b -> Check.house(b, "1 9 9 9 9"), 2, true);
        leaves(much, "a house of FAULT 3", b -> Check.house(b, "1 9 9 100"), 4, true);
        leaves(much, "a WRONG courier", b -> Check.courier(b, "1-9,"), 2, true);
        leaves(much, "a courier of FAULT 4", b -> Check.courier(b, "1-9,9-10"), 4, true);
    }

    private static void loansRefusedLeaveAll() {
        check.about("a refused loan() changes nothing else");
        Consumer<Book> much = RefusalTest::tellMuch;
        leaves(much, "a loan to no house", b -> Check.loan(b, 2, "60+3:3"), 1, false);
        leaves(much, "a loan to house -1", b -> Check.loan(b, -1, "60+3:3"), 1, false);
        leaves(much, "a WRONG loan", b -> Check.loan(b, 0, "60+3:3,"), 2, true);
        leaves(much, "a loan of FAULT 5", b -> Check.loan(b, 0, "60+0:3"), 4, true);
        leaves(much, "a loan of FAULT 5", b -> Check.loan(b, 0, "60+3:3,4"), 4, true);
        leaves(much, "a loan of FAULT 6", b -> Check.loan(b, 0, "18+3:0,3"), 4, true);
        leaves(much, "a loan of FAULT 7", b -> Check.loan(b, 1, "60+3:0,1"), 4, true);
        // nobody from 501 on; nobody on the way BACK; one COURIER for two PARCELS from 301 on
        leaves(much, "a loan of FAULT 8", b -> Check.loan(b, 0, "600+5:0"), 4, true);
        leaves(much, "a loan of FAULT 8, way back", b -> Check.loan(b, 0, "496+5:0"), 4, true);
        leaves(much, "a loan of FAULT 8, one of two", b -> Check.loan(b, 1, "400+5:1,2"), 4, true);
        // "(if the LOAN is refused, it is as if nobody had got one)"
        Book book = new Book();
        tellMuch(book);
        int busy = book.busy(0);
        check.faulty(book, "way back", Check.loan(book, 0, "496+5:0"), 8);
        check.answered(book, "busy(0)", book.busy(0), busy);
        check.answered(book, "with(0, 496)", book.with(0, 496), -1);
        check.answered(book, "ready(0, 490, 11)", book.ready(0, 490, 11), 490);
    }

    private static void reportsRefusedLeaveAll() {
        check.about("a refused report() changes nothing else");
        Consumer<Book> much = RefusalTest::tellMuch;
        leaves(much, "a report of no thing", b -> Check.report(b, 4, 20, "sound"), 1, false);
        leaves(much, "a report of thing -1", b -> Check.report(b, -1, 20, "sound"), 1, false);
        leaves(much, "a report of day -1", b -> Check.report(b, 0, -1, "sound"), 3, false);
        leaves(much, "a report of day 1000", b -> Check.report(b, 0, 1000, "sound"), 3, false);
        leaves(much, "a WRONG report", b -> Check.report(b, 0, 10, "tear 1 1,"), 2, true);
        leaves(much, "a report of FAULT 9", b -> Check.report(b, 0, 10, "tear 1 100"), 4, true);
        leaves(much, "a report of FAULT 10", b -> Check.report(b, 0, 10, "tear 1 1, tear 1 2"), 4, true);
        leaves(much, "a report of FAULT 11", b -> Check.report(b, 0, 15, "sound"), 4, true);
    }

    private static void fullBookLeavesAll() {
        check.about("what is refused by a 9 changes nothing else");
        Consumer<Book> all = RefusalTest::tellAllThatHasRoom;
        leaves(all, "thing 16", b -> Check.thing(b, "jar 7 7"), 9, true);
        leaves(all, "house 6", b -> Check.house(b, "1 7 7 7"), 9, true);
        leaves(all, "courier 8", b -> Check.courier(b, "1-7"), 9, true);
        leaves(all, "loan 16", b -> Check.loan(b, 0, "300+3:3,4"), 9, true);
        leaves(all, "report 48", b -> Check.report(b, 0, 999, "sound"), 9, true);
        leaves(all, "pair 48", b -> b.appraise(0, 999, 999), 9, false);
        leaves(all, "pair 48", b -> b.appraise(3, 0, 999), 9, false);
    }

    private static void answeredQuestionsLeaveAll() {
        check.about("a question that is answered changes nothing but STATUS");
        for (int from = 0; from < QUESTIONS.size(); from += 100) {
            Book book = new Book();
            Book twin = new Book();
            muchAndTape("jar 3 3").accept(book);
            muchAndTape("jar 3 3").accept(twin);
            for (int i = 0; i < 100; i++) {
                QUESTIONS.get((from + i) % QUESTIONS.size()).ask.applyAsInt(book);
            }
            for (int i = 0; i < 100; i++) {
                Question asked = QUESTIONS.get((from * 7 + 11 * i) % QUESTIONS.size());
                check.due(asked.call + " again", asked.ask.applyAsInt(book), asked.ask.applyAsInt(twin));
            }
            check.due("what is told behind questions", tellOn(book).equals(tellOn(twin)) ? 1 : 0, 1);
        }
    }
}
