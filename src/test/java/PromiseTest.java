/** For each promise: ordinary inputs, the edges that the document names, and wrong inputs. */
public final class PromiseTest {
    private static final int BAD = Check.BAD;
    private static final int[] FAR = {Integer.MIN_VALUE, -1000, -2, -1, 16, 1000, Integer.MAX_VALUE};
    private static final Check check = new Check();

    public static void main(String[] args) {
        newObject();
        feedAndEnd();
        thingTexts();
        houseTexts();
        courierTexts();
        loanTexts();
        reportTexts();
        orderOfRefusals();
        faultsOfThings();
        faultsOfHousesAndCouriers();
        faultsOfLoans();
        faultsOfReports();
        room();
        roomOfLoans();
        appraising();
        cancelling();
        placeAndFault();
        counting();
        goingTogether();
        whereAndFree();
        stages();
        packing();
        packingApart();
        guarding();
        guardingLeastBusy();
        guardingTakenBack();
        busyWithReady();
        costs();
        premiums();
        dearestDays();
        harmsAndNotes();
        damages();
        bearers();
        chargesAndHome();
        letters();
        statusOfCalls();
        numbersOutOfReach();
        check.close();
    }

    private static void written(Book book, int what, int number, String want) {
        for (int k = 0; k < want.length(); k++) {
            check.due("letter " + k + " of " + want, book.letter(what, number, k), want.charAt(k));
        }
        check.due("status() behind " + want, book.status(), 0);
        check.refused(book, "letter behind " + want, book.letter(what, number, want.length()), 1);
        check.refused(book, "letter -1 of " + want, book.letter(what, number, -1), 1);
    }

    private static void noted(Book book, int thing, int day, String want) {
        for (int k = 0; k < want.length(); k++) {
            check.due("note " + k + " of " + want, book.note(thing, day, k), want.charAt(k));
        }
        check.due("status() behind " + want, book.status(), 0);
        check.refused(book, "note behind " + want, book.note(thing, day, want.length()), 1);
        check.refused(book, "note -1 of " + want, book.note(thing, day, -1), 1);
    }

    private static void newObject() {
        check.about("promise 1");
        Book book = new Book();
        check.due("BAD", LoanBook.BAD, -9999);
        check.due("status()", book.status(), 0);
        check.due("place()", book.place(), BAD);
        check.due("fault()", book.fault(), 0);
        check.due("home()", book.home(), 0);
        for (int what = 0; what <= 6; what++) {
            check.due("count(" + what + ")", book.count(what), 0);
        }
        Book other = new Book();
        Check.thing(book, "jar 1 1");
        check.due("count(0) of another book", other.count(0), 0);
    }

    private static void feedAndEnd() {
        check.about("promises 2 and 3");
        Book book = new Book();
        check.refused(book, "end(1)", book.end(1), 3);
        check.answered(book, "end(0)", book.end(0), 0);
        for (int size = 20; size <= 120; size += 20) {
            check.answered(book, "feed", book.feed(0x20202020, 0x20202020, 0x20202020, 0x20202020, 0x20202020), size);
        }
        check.refused(book, "feed beyond 120", book.feed(0, 0, 0, 0, 0), 9);
        check.due("count(6)", book.count(6), 120);
        check.refused(book, "end(121)", book.end(121), 3);
        check.refused(book, "end(-1)", book.end(-1), 3);
        check.answered(book, "end(120)", book.end(120), 120);
        check.answered(book, "end(101)", book.end(101), 101);
        check.refused(book, "feed beyond 120 by one", book.feed(0, 0, 0, 0, 0), 9);
        check.answered(book, "end(100)", book.end(100), 100);
        check.refused(book, "end(101) behind end(100)", book.end(101), 3);
        check.answered(book, "feed up to 120", book.feed(0x6a617220, 0x35203720, 0x20202020, 0x20202020, 0x20202020), 120);
        check.answered(book, "thing() at the tape's end", book.thing(), 0);
        check.due("count(6)", book.count(6), 0);
        written(book, 0, 0, "jar 5 7");
        // the highest byte first, and bytes above 127
        book.feed(0x6a617220, 0x3132FF20, 0x20202020, 0x20202020, 0x20202020);
        check.refused(book, "thing() with a byte 255", book.thing(), 2);
        check.due("place()", book.place(), 6);
        book.feed(0x6a617200, 0, 0, 0, 0);
        check.refused(book, "thing() with a byte 0", book.thing(), 2);
        check.due("place()", book.place(), 3);
    }

    /** The text is WRONG at the place; -1: it is right. */
    private static void reads(String what, String text, int place) {
        Book book = new Book();
        Check.thing(book, "jar 1 1");
        Check.house(book, "1 999 9999 1");
        int got = Check.read(book, what, text);
        String call = what + "() of '" + text + "'";
        if (place >= 0) {
            check.wrong(book, call, got, place);
        } else {
            check.due("status() behind " + call, book.status(), 0);
            check.due("place() behind " + call, book.place(), BAD);
        }
        check.due("count(6) behind " + call, book.count(6), 0);
    }

    private static void thingTexts() {
        check.about("promise 4, texts");
        for (String kind : new String[] {"sheet", "jar", "skin", "cast", "book"}) {
            reads("thing", kind + " 12 5", -1);
            reads("thing", "jar 12 5 not " + kind, -1);
        }
        reads("thing", "sheet12 5not jar not skin", -1);
        reads("thing", "  sheet  0012   0005  not  book   ", -1);
        reads("thing", "sheet 1 1 notjar", 10);
        reads("thing", "", 0);
        reads("thing", "    ", 4);
        reads("thing", "sheet", 5);
        reads("thing", "sheet  ", 7);
        reads("thing", "sheet 5", 7);
        reads("thing", "sheet 12345 5", 6);
        reads("thing", "sheet 00005 5", 6);
        reads("thing", "sheet 5 00005", 8);
        reads("thing", "sheet 9999 1", -1);
        reads("thing", "sheets 5 5", 0);
        reads("thing", "shee 5 5", 0);
        reads("thing", "xheet 5 5", 0);
        reads("thing", "sheex 5 5", 0);
        reads("thing", " Sheet 5 5", 1);
        reads("thing", "not sheet 5 5", 0);
        reads("thing", "sound 5 5", 0);
        reads("thing", "tear 5 5", 0);
        reads("thing", "5 5", 0);
        reads("thing", "sheet sheet 5 5", 6);
        reads("thing", "sheet 5, 5", 7);
        reads("thing", "sheet 5 5 jar", 10);
        reads("thing", "sheet 5 5 5", 10);
        reads("thing", "sheet 5 5 not", 13);
        reads("thing", "sheet 5 5 not ", 14);
        reads("thing", "sheet 5 5 not 5", 14);
        reads("thing", "sheet 5 5 not tear", 14);
        reads("thing", "sheet 5 5 not not", 14);
        reads("thing", "sheet 5 5 not jar,", 17);
        reads("thing", "sheet 5 5 not jar jar", 18);
        reads("thing", "sheet 5 5 #", 10);
        reads("thing", "sheet\t5 5", 5);
        reads("thing", "sheet 5 5 \u00e9", 10);
        reads("thing", "shee\u00f4 5 5", 0);
        reads("thing", "sheet - 5", 6);
    }

    private static void houseTexts() {
        check.about("promise 5, texts");
        reads("house", "2 100 500 9", -1);
        reads("house", "  0002 0100 0500 0009  ", -1);
        reads("house", "", 0);
        reads("house", "2 ", 2);
        reads("house", "2 100", 5);
        reads("house", "2 100 500", 9);
        reads("house", "2 100 500 9 7", 12);
        reads("house", "2 100 500 9x", 11);
        reads("house", "2100500 9", 0);
        reads("house", "2 100 500 jar", 10);
        reads("house", "2-100 500 9", 1);
        reads("house", "2 100 500 9,", 11);
        reads("house", "2 100 50000 9", 6);
    }

    private static void courierTexts() {
        check.about("promise 6, texts");
        reads("courier", "0-9", -1);
        reads("courier", " 0 - 9 , 10 - 12 ", -1);
        reads("courier", "0-0,1-1,2-2,3-3,4-4,5-5,6-6,7-7,8-8,9-9", -1);
        reads("courier", "", 0);
        reads("courier", "0", 1);
        reads("courier", "0-", 2);
        reads("courier", "0 9", 2);
        reads("courier", "0--9", 2);
        reads("courier", "-9", 0);
        reads("courier", "0-9,", 4);
        reads("courier", "0-9, ", 5);
        reads("courier", "0-9,,10-12", 4);
        reads("courier", "0-9 10-12", 4);
        reads("courier", "0-9:10-12", 3);
        reads("courier", "0-9,10", 6);
        reads("courier", "0-9,jar", 4);
        reads("courier", "0-9-10", 3);
    }

    private static void loanTexts() {
        check.about("promise 7, texts");
        reads("loan", "10+5:0", -1);
        reads("loan", "  10  +  5  :  0  ", -1);
        reads("loan", "", 0);
        reads("loan", "10", 2);
        reads("loan", "10+", 3);
        reads("loan", "10+5", 4);
        reads("loan", "10+5:", 5);
        reads("loan", "10+5:0,", 7);
        reads("loan", "10+5:0 1", 7);
        reads("loan", "10+5:,0", 5);
        reads("loan", "10-5:0", 2);
        reads("loan", "10+5,0", 4);
        reads("loan", "10+5:0:0", 6);
        reads("loan", "10+5:0,x", 7);
        reads("loan", "10++5:0", 3);
        reads("loan", "+10+5:0", 0);
        reads("loan", "10+5:00000", 5);
    }

    private static void reportTexts() {
        check.about("promise 8, texts");
        reads("report", "sound", -1);
        reads("report", "  sound  ", -1);
        for (String sort : new String[] {"tear", "stain", "crack", "loss"}) {
            reads("report", sort + " 0 1", -1);
        }
        reads("report", "tear0 1,loss 99 99 , crack 5 5", -1);
        reads("report", "", 0);
        reads("report", "sound sound", 6);
        reads("report", "sound,", 5);
        reads("report", "sound 5", 6);
        reads("report", "soundtear", 0);
        reads("report", "jar 0 1", 0);
        reads("report", "not sound", 0);
        reads("report", "tear", 4);
        reads("report", "tear 0", 6);
        reads("report", "tear 0 1 1", 9);
        reads("report", "tear 0 1 tear 1 1", 9);
        reads("report", "tear 0 1,", 9);
        reads("report", "tear 0 1, sound", 10);
        reads("report", "tear 0,1", 6);
        reads("report", "5 5", 0);
        reads("report", "tears 0 1", 0);
    }

    private static void orderOfRefusals() {
        check.about("promises 4 to 9, which refusal comes first");
        Book book = new Book();
        Check.tell(book, "sheet 5");
        check.refused(book, "loan(0) without houses", book.loan(0), 1);
        check.due("tape behind a 1", book.count(6), 0);
        check.due("place(): no text was read", book.place(), BAD);
        Check.thing(book, "sheet 5");
        check.due("place()", book.place(), 7);
        Check.tell(book, "x");
        check.refused(book, "report(0, 0) without things", book.report(0, 0), 1);
        check.due("place() stays", book.place(), 7);
        Check.tell(book, "x");
        check.refused(book, "loan(-1)", book.loan(-1), 1);
        check.due("place() stays", book.place(), 7);
        Check.thing(book, "sheet 5 0");
        check.due("fault()", book.fault(), 1);
        check.due("place() behind a FAULT", book.place(), BAD);
        Check.thing(book, "sheet 5 1");
        check.due("fault() behind a right text", book.fault(), 0);
        Check.thing(book, "sheet 5 0");
        Check.tell(book, "x");
        check.refused(book, "report(0, 1000)", book.report(0, 1000), 3);
        check.due("tape behind a 3", book.count(6), 0);
        check.due("fault() stays", book.fault(), 1);
        check.refused(book, "report(1, 1000)", book.report(1, 1000), 1);
        check.refused(book, "report(0, -1)", book.report(0, -1), 3);
        check.refused(book, "appraise(1, 1000, 0)", book.appraise(1, 1000, 0), 1);
        check.refused(book, "value(1, 1000)", book.value(1, 1000), 1);
        check.refused(book, "letter(3, 9, 9)", book.letter(3, 9, 9), 3);
        check.refused(book, "letter(-1, 0, 0)", book.letter(-1, 0, 0), 3);
        check.refused(book, "note(1, 1000, 0)", book.note(1, 1000, 0), 1);
        check.refused(book, "note(0, 1000, 0)", book.note(0, 1000, 0), 3);
        check.refused(book, "note(0, 0, 0)", book.note(0, 0, 0), 1);
        Check.house(book, "1 9 9 9");
        Check.loan(book, 0, "0+1:0");
        check.refused(book, "guard(0, 1, 2)", book.guard(0, 1, 2), 1);
        check.refused(book, "guard(0, 0, 2)", book.guard(0, 0, 2), 3);
        check.refused(book, "guard(0, 0, -1)", book.guard(0, 0, -1), 3);
        check.refused(book, "premium(1, 5, 4)", book.premium(1, 5, 4), 1);
        check.refused(book, "premium(0, 5, 4)", book.premium(0, 5, 4), 3);
    }

    private static void faultsOfThings() {
        check.about("promise 4, FAULTS 1 and 2");
        Book book = new Book();
        check.faulty(book, "n 0", Check.thing(book, "jar 0 5"), 1);
        check.faulty(book, "m 0", Check.thing(book, "jar 5 0"), 1);
        check.faulty(book, "m 1000", Check.thing(book, "jar 5 1000"), 1);
        check.faulty(book, "two nots", Check.thing(book, "jar 5 5 not jar not skin not jar"), 2);
        check.faulty(book, "both", Check.thing(book, "jar 5 0 not jar not jar"), 1);
        check.answered(book, "least", Check.thing(book, "jar 1 1"), 0);
        check.answered(book, "most", Check.thing(book, "jar 9999 999 not sheet not jar not skin not cast not book"), 1);
        check.due("count(0)", book.count(0), 2);
    }

    private static void faultsOfHousesAndCouriers() {
        check.about("promises 5 and 6, FAULTS 3 and 4");
        Book book = new Book();
        check.faulty(book, "n 0", Check.house(book, "0 5 5 5"), 3);
        check.faulty(book, "n 31", Check.house(book, "31 5 5 5"), 3);
        check.faulty(book, "m 0", Check.house(book, "5 0 5 5"), 3);
        check.faulty(book, "p 0", Check.house(book, "5 5 5 0"), 3);
        check.faulty(book, "p 100", Check.house(book, "5 5 5 100"), 3);
        check.answered(book, "least", Check.house(book, "1 1 0 1"), 0);
        check.answered(book, "most", Check.house(book, "30 9999 9999 99"), 1);
        check.faulty(book, "s above t", Check.courier(book, "6-5"), 4);
        check.faulty(book, "t 1000", Check.courier(book, "6-1000"), 4);
        check.faulty(book, "s as the t ahead", Check.courier(book, "6-7,7-8"), 4);
        check.faulty(book, "s below the t ahead", Check.courier(book, "6-7,1-2"), 4);
        check.faulty(book, "second s above t", Check.courier(book, "6-7,9-8"), 4);
        check.faulty(book, "thirty spans", Check.courier(book, "0-0,1-1,2-2,3-3,4-4,5-5,6-6,7-7,8-8,9-9,0-0,1-1,2-2,3-3,"
            + "4-4,5-5,6-6,7-7,8-8,9-9,0-0,1-1,2-2,3-3,4-4,5-5,6-6,7-7,8-8,9-9"), 4);
        check.answered(book, "a day", Check.courier(book, "0-0"), 0);
        check.answered(book, "all days", Check.courier(book, "0-6,7-999"), 1);
        check.due("count(1)", book.count(1), 2);
        check.due("count(2)", book.count(2), 2);
    }

    private static void faultsOfLoans() {
        check.about("promise 7, FAULTS 5 to 8");
        Book book = new Book();
        Check.house(book, "2 50 100 9");
        Check.thing(book, "jar 100 50");
        Check.thing(book, "jar 101 50");
        Check.thing(book, "jar 1 51");
        check.faulty(book, "t 0", Check.loan(book, 0, "0+0:0"), 5);
        check.faulty(book, "t 301", Check.loan(book, 0, "0+301:0"), 5);
        check.faulty(book, "a day 1000", Check.loan(book, 0, "700+297:0"), 5);
        check.faulty(book, "s 9999", Check.loan(book, 0, "9999+1:0"), 5);
        check.faulty(book, "no such thing", Check.loan(book, 0, "0+1:3"), 5);
        check.faulty(book, "the same thing twice", Check.loan(book, 0, "0+1:0,0"), 5);
        check.faulty(book, "things falling", Check.loan(book, 0, "0+1:2,0"), 5);
        check.faulty(book, "58 things", Check.loan(book, 0, "0+1:0" + ",0".repeat(57)), 5);
        check.faulty(book, "too heavy", Check.loan(book, 0, "0+1:2"), 7);
        check.faulty(book, "too heavy, and no courier", Check.loan(book, 0, "0+1:1,2"), 7);
        check.faulty(book, "no courier", Check.loan(book, 0, "0+1:0,1"), 8);
        check.answered(book, "as heavy as the limit, as dear as the guard", Check.loan(book, 0, "0+1:0"), 0);
        check.faulty(book, "its days, and too heavy", Check.loan(book, 0, "4+1:0,2"), 6);
        check.faulty(book, "its first day", Check.loan(book, 0, "4+300:0"), 6);
        check.answered(book, "the day behind, the last day 999", Check.loan(book, 0, "696+300:0"), 1);
        check.faulty(book, "its last day", Check.loan(book, 0, "692+1:0"), 6);
        check.answered(book, "the day ahead", Check.loan(book, 0, "691+1:0"), 2);
        check.answered(book, "the day behind", Check.loan(book, 0, "5+1:0"), 3);
        book.cancel(0);
        check.answered(book, "in place of one cancelled", Check.loan(book, 0, "0+1:0"), 4);
        check.due("count(3)", book.count(3), 5);
        Book far = new Book();
        Check.house(far, "30 50 9999 9");
        Check.thing(far, "jar 100 50");
        check.faulty(far, "a day 1000", Check.loan(far, 0, "640+301:0"), 5);
        check.faulty(far, "a day 1000", Check.loan(far, 0, "641+300:0"), 5);
        check.answered(far, "up to 999", Check.loan(far, 0, "640+300:0"), 0);
        check.faulty(far, "its last day", Check.loan(far, 0, "570+11:0"), 6);
        check.answered(far, "up to the day ahead", Check.loan(far, 0, "570+10:0"), 1);
    }

    private static void faultsOfReports() {
        check.about("promise 8, FAULTS 9 to 11");
        Book book = new Book();
        Check.thing(book, "jar 100 50");
        Check.thing(book, "jar 100 50");
        check.faulty(book, "spot 100", Check.report(book, 0, 5, "tear 100 5"), 9);
        check.faulty(book, "spot 100 of a later one", Check.report(book, 0, 5, "tear 5 5, loss 5 5, loss 100 5"), 9);
        check.faulty(book, "size 0", Check.report(book, 0, 5, "tear 5 0"), 9);
        check.faulty(book, "size 100", Check.report(book, 0, 5, "tear 5 5, loss 5 100"), 9);
        check.faulty(book, "the same twice, and size 0", Check.report(book, 0, 5, "tear 5 5, tear 5 5, loss 5 0"), 9);
        check.faulty(book, "the same twice", Check.report(book, 0, 5, "tear 5 5, loss 5 5, tear 05 6"), 10);
        check.answered(book, "spots 0 and 99", Check.report(book, 0, 5, "tear 0 1, tear 99 99, stain 0 1"), 1);
        check.faulty(book, "the same day", Check.report(book, 0, 5, "sound"), 11);
        check.faulty(book, "the same day and twice", Check.report(book, 0, 5, "loss 1 1, loss 1 2"), 10);
        check.answered(book, "another thing", Check.report(book, 1, 5, "sound"), 1);
        check.answered(book, "an earlier day", Check.report(book, 0, 4, "sound"), 2);
        check.answered(book, "day 0", Check.report(book, 0, 0, "sound"), 3);
        check.answered(book, "day 999", Check.report(book, 0, 999, "sound"), 4);
        check.due("count(5)", book.count(5), 5);
    }

    private static void room() {
        check.about("no room");
        Book book = new Book();
        for (int i = 0; i < 16; i++) {
            check.answered(book, "thing " + i, Check.thing(book, "jar 7 7"), i);
        }
        check.full(book, "thing 16", Check.thing(book, "jar 7 7"));
        check.faulty(book, "thing 16 with a FAULT", Check.thing(book, "jar 0 7"), 1);
        check.refused(book, "wrong thing 16", Check.thing(book, "jar"), 2);
        for (int i = 0; i < 6; i++) {
            check.answered(book, "house " + i, Check.house(book, "1 7 7 7"), i);
        }
        check.full(book, "house 6", Check.house(book, "1 7 7 7"));
        check.faulty(book, "house 6 with a FAULT", Check.house(book, "0 7 7 7"), 3);
        for (int i = 0; i < 8; i++) {
            check.answered(book, "courier " + i, Check.courier(book, "1-7"), i);
        }
        check.full(book, "courier 8", Check.courier(book, "1-7"));
        check.faulty(book, "courier 8 with a FAULT", Check.courier(book, "7-1"), 4);
        for (int i = 0; i < 48; i++) {
            check.answered(book, "report " + i, Check.report(book, i % 16, 2 * i, "sound"), i / 16 + 1);
            check.answered(book, "appraise " + i, book.appraise(i % 16, 2 * i, 9), i < 16 ? 7 : 9);
        }
        check.full(book, "report 48", Check.report(book, 0, 1, "sound"));
        check.faulty(book, "report 48 on a day told", Check.report(book, 0, 0, "sound"), 11);
        check.refused(book, "appraise 48", book.appraise(0, 1, 9), 9);
        check.due("value(0, 1)", book.value(0, 1), 9);
        check.answered(book, "appraise a pair told", book.appraise(15, 94, 8), 9);
        check.due("value(15, 94)", book.value(15, 94), 8);
        check.refused(book, "appraise 48, value 0", book.appraise(0, 1, 0), 3);
        Book again = new Book();
        Check.thing(again, "jar 7 7");
        for (int i = 1; i <= 60; i++) {
            check.answered(again, "the same pair again", again.appraise(0, 5, i), i == 1 ? 7 : i - 1);
        }
        for (int what = 0; what < 6; what++) {
            int want = new int[] {16, 6, 8, 0, 0, 48}[what];
            check.due("count(" + what + ")", book.count(what), want);
        }
    }

    private static void roomOfLoans() {
        check.about("no room for loans");
        Book book = new Book();
        Check.thing(book, "jar 7 7");
        Check.house(book, "1 7 0 7");
        Check.courier(book, "0-900");
        for (int i = 0; i < 16; i++) {
            check.answered(book, "loan " + i, Check.loan(book, 0, 3 * i + "+1:0"), i);
        }
        for (int i = 0; i < 16; i++) {
            check.answered(book, "cancel " + i, book.cancel(i), 15 - i);
        }
        check.full(book, "loan 16", Check.loan(book, 0, "1+1:0"));
        check.due("busy(0)", book.busy(0), 0);
        check.due("where(0, 1)", book.where(0, 1), -1);
        check.faulty(book, "loan 16 with a FAULT", Check.loan(book, 0, "1+0:0"), 5);
        check.faulty(book, "loan 16 without a courier", Check.loan(book, 0, "900+1:0"), 8);
        check.due("count(3)", book.count(3), 16);
        check.due("count(4)", book.count(4), 0);
    }

    private static void appraising() {
        check.about("promises 9 and 14");
        Book book = new Book();
        Check.thing(book, "jar 1200 50");
        Check.thing(book, "jar 5 50");
        check.answered(book, "value(0, 999)", book.value(0, 999), 1200);
        check.answered(book, "appraise day 10", book.appraise(0, 10, 1500), 1200);
        check.answered(book, "again", book.appraise(0, 10, 1), 1500);
        check.answered(book, "day 20", book.appraise(0, 20, 9999), 1);
        check.answered(book, "day 15", book.appraise(0, 15, 7), 1);
        check.answered(book, "day 0", book.appraise(0, 0, 3), 1200);
        check.answered(book, "day 999", book.appraise(0, 999, 4), 9999);
        check.answered(book, "again day 15", book.appraise(0, 15, 8), 7);
        int[] days = {0, 9, 10, 14, 15, 19, 20, 998, 999};
        int[] values = {3, 3, 1, 1, 8, 8, 9999, 9999, 4};
        for (int i = 0; i < days.length; i++) {
            check.answered(book, "value(0, " + days[i] + ")", book.value(0, days[i]), values[i]);
        }
        check.answered(book, "value(1, 999)", book.value(1, 999), 5);
        check.refused(book, "value 0", book.appraise(0, 10, 0), 3);
        check.refused(book, "value 10000", book.appraise(0, 10, 10000), 3);
        check.refused(book, "day -1", book.appraise(0, -1, 5), 3);
        check.refused(book, "day 1000", book.appraise(0, 1000, 5), 3);
        check.refused(book, "thing 2", book.appraise(2, 0, 5), 1);
        check.refused(book, "thing -1", book.appraise(-1, 0, 5), 1);
        check.refused(book, "value(0, 1000)", book.value(0, 1000), 3);
        check.refused(book, "value(0, -1)", book.value(0, -1), 3);
        check.refused(book, "value(2, 0)", book.value(2, 0), 1);
        written(book, 0, 0, "jar 1200 50");
    }

    private static void cancelling() {
        check.about("promise 10");
        Book book = new Book();
        Check.thing(book, "jar 7 7");
        Check.thing(book, "jar 7 7");
        Check.house(book, "1 7 0 7");
        Check.courier(book, "0-900");
        check.refused(book, "cancel(0)", book.cancel(0), 1);
        Check.loan(book, 0, "0+1:0");
        Check.loan(book, 0, "5+1:0");
        check.answered(book, "cancel(0)", book.cancel(0), 1);
        check.refused(book, "cancel(0) again", book.cancel(0), 1);
        check.refused(book, "cancel(2)", book.cancel(2), 1);
        check.refused(book, "cancel(-1)", book.cancel(-1), 1);
        check.refused(book, "stage", book.stage(0, 0), 1);
        check.refused(book, "parcels", book.parcels(0), 1);
        check.refused(book, "parcel", book.parcel(0, 0), 1);
        check.refused(book, "weight", book.weight(0, 0), 1);
        check.refused(book, "guard", book.guard(0, 0, 0), 1);
        check.refused(book, "cost", book.cost(0, 0), 1);
        check.refused(book, "premium", book.premium(0, 0, 1), 1);
        check.refused(book, "dearest", book.dearest(0), 1);
        check.refused(book, "charge", book.charge(0), 1);
        check.due("where(0, 1)", book.where(0, 1), -1);
        check.due("with(0, 0)", book.with(0, 0), -1);
        check.due("where(0, 6)", book.where(0, 6), 1);
        check.due("with(0, 5)", book.with(0, 5), 1);
        check.due("busy(0)", book.busy(0), 2);
        check.due("count(3)", book.count(3), 2);
        check.due("count(4)", book.count(4), 1);
        check.answered(book, "cancel(1)", book.cancel(1), 0);
        check.due("busy(0)", book.busy(0), 0);
    }

    private static void placeAndFault() {
        check.about("promises 11 and 12");
        Book book = new Book();
        Check.house(book, "0 1 1 1");
        check.due("fault()", book.fault(), 3);
        check.due("status()", book.status(), 4);
        book.count(0);
        check.due("fault() behind count()", book.fault(), 3);
        check.due("status() behind count()", book.status(), 0);
        Check.house(book, "1 1");
        check.due("fault() of a WRONG text", book.fault(), 0);
        check.due("place()", book.place(), 3);
        check.due("status() behind place()", book.status(), 2);
        Check.house(book, "1 1 1 1");
        check.due("place() of a right text", book.place(), BAD);
        check.due("status() behind place() of a right text", book.status(), 0);
        check.due("fault() of a right text", book.fault(), 0);
    }

    private static void counting() {
        check.about("promise 13");
        Book book = new Book();
        check.refused(book, "count(7)", book.count(7), 3);
        check.refused(book, "count(-1)", book.count(-1), 3);
        Check.thing(book, "jar 7 7");
        Check.house(book, "1 7 7 7");
        Check.house(book, "1 7 7 7");
        Check.courier(book, "1-7");
        Check.courier(book, "1-7");
        Check.courier(book, "1-7");
        for (int i = 0; i < 5; i++) {
            Check.loan(book, 0, 3 * i + "+1:0");
        }
        book.cancel(3);
        for (int i = 0; i < 6; i++) {
            Check.report(book, 0, i, "sound");
        }
        Check.tell(book, "jar 7 7");
        int[] want = {1, 2, 3, 5, 4, 6, 7};
        for (int what = 0; what < want.length; what++) {
            check.answered(book, "count(" + what + ")", book.count(what), want[what]);
        }
    }

    private static void goingTogether() {
        check.about("promise 15");
        Book book = new Book();
        Check.thing(book, "jar 7 7 not jar not book");
        Check.thing(book, "sheet 7 7");
        Check.thing(book, "book 7 7 not skin");
        Check.thing(book, "skin 7 7 not sheet");
        int[][] want = {{0, 1, 0, 1}, {1, 1, 1, 0}, {0, 1, 1, 0}, {1, 0, 0, 1}};
        for (int one = 0; one < 4; one++) {
            for (int other = 0; other < 4; other++) {
                String call = "together(" + one + ", " + other + ")";
                check.answered(book, call, book.together(one, other), want[one][other]);
            }
        }
        check.refused(book, "together(0, 4)", book.together(0, 4), 1);
        check.refused(book, "together(4, 0)", book.together(4, 0), 1);
        check.refused(book, "together(-1, 0)", book.together(-1, 0), 1);
    }

    private static void whereAndFree() {
        check.about("promises 16 and 17");
        Book book = new Book();
        Check.thing(book, "jar 7 7");
        Check.thing(book, "jar 7 7");
        Check.house(book, "3 7 9999 7");
        Check.loan(book, 0, "10+4:0");
        Check.loan(book, 0, "25+4:0,1");
        int[] days = {0, 9, 10, 19, 20, 24, 25, 34, 35, 999};
        int[] loans = {-1, -1, 0, 0, -1, -1, 1, 1, -1, -1};
        for (int i = 0; i < days.length; i++) {
            check.answered(book, "where(0, " + days[i] + ")", book.where(0, days[i]), loans[i]);
        }
        check.answered(book, "where(1, 10)", book.where(1, 10), -1);
        check.refused(book, "where(2, 10)", book.where(2, 10), 1);
        check.refused(book, "where(0, 1000)", book.where(0, 1000), 3);
        check.refused(book, "where(0, -1)", book.where(0, -1), 3);
        check.answered(book, "free(0, 0, 10)", book.free(0, 0, 10), 0);
        check.answered(book, "free(0, 1, 10)", book.free(0, 1, 10), 35);
        check.answered(book, "free(0, 5, 5)", book.free(0, 5, 5), 5);
        check.answered(book, "free(0, 6, 5)", book.free(0, 6, 5), 20);
        check.answered(book, "free(0, 20, 5)", book.free(0, 20, 5), 20);
        check.answered(book, "free(0, 0, 965)", book.free(0, 0, 965), 35);
        check.answered(book, "free(0, 0, 966)", book.free(0, 0, 966), -1);
        check.answered(book, "free(0, 999, 1)", book.free(0, 999, 1), 999);
        check.answered(book, "free(0, 999, 2)", book.free(0, 999, 2), -1);
        check.answered(book, "free(0, 0, 1000)", book.free(0, 0, 1000), -1);
        check.refused(book, "free(0, 0, 0)", book.free(0, 0, 0), 3);
        check.refused(book, "free(0, 0, 1001)", book.free(0, 0, 1001), 3);
        check.refused(book, "free(0, 1000, 1)", book.free(0, 1000, 1), 3);
        check.refused(book, "free(2, 0, 1)", book.free(2, 0, 1), 1);
        book.cancel(0);
        book.cancel(1);
        check.answered(book, "free(0, 0, 1000)", book.free(0, 0, 1000), 0);
        check.answered(book, "where(0, 10)", book.where(0, 10), -1);
    }

    private static void stages() {
        check.about("promise 18");
        Book book = new Book();
        Check.thing(book, "jar 7 7");
        Check.house(book, "3 7 9999 7");
        Check.loan(book, 0, "10+4:0");
        int[] days = {0, 9, 10, 12, 13, 16, 17, 19, 20, 999};
        int[] stages = {0, 0, 1, 1, 2, 2, 3, 3, 0, 0};
        for (int i = 0; i < days.length; i++) {
            check.answered(book, "stage(0, " + days[i] + ")", book.stage(0, days[i]), stages[i]);
        }
        check.refused(book, "stage(1, 0)", book.stage(1, 0), 1);
        check.refused(book, "stage(0, 1000)", book.stage(0, 1000), 3);
        check.refused(book, "stage(0, -1)", book.stage(0, -1), 3);
    }

    private static void packing() {
        check.about("promises 19 to 21");
        Book book = new Book();
        int[] weights = {10, 60, 50, 60, 40, 30};
        for (int weight : weights) {
            Check.thing(book, "jar 7 " + weight);
        }
        Check.house(book, "3 100 9999 7");
        check.answered(book, "loan", Check.loan(book, 0, "10+4:0,1,2,3,4,5"), 0);
        // 60 (1) -> 0; 60 (3) -> 1; 50 (2) -> 2; 40 (4) -> 0, full; 30 (5) -> 1; 10 (0) -> 1, full
        check.answered(book, "parcels(0)", book.parcels(0), 3);
        int[] parcels = {1, 0, 2, 1, 0, 1};
        for (int thing = 0; thing < parcels.length; thing++) {
            check.answered(book, "parcel(0, " + thing + ")", book.parcel(0, thing), parcels[thing]);
        }
        check.answered(book, "weight(0, 0)", book.weight(0, 0), 100);
        check.answered(book, "weight(0, 1)", book.weight(0, 1), 100);
        check.answered(book, "weight(0, 2)", book.weight(0, 2), 50);
        check.refused(book, "weight(0, 3)", book.weight(0, 3), 1);
        check.refused(book, "weight(0, -1)", book.weight(0, -1), 1);
        check.refused(book, "weight(1, 0)", book.weight(1, 0), 1);
        check.refused(book, "parcels(1)", book.parcels(1), 1);
        check.refused(book, "parcel(0, 6)", book.parcel(0, 6), 1);
        check.refused(book, "parcel(0, -1)", book.parcel(0, -1), 1);
        check.refused(book, "parcel(1, 0)", book.parcel(1, 0), 1);
        Check.thing(book, "jar 7 1");
        check.refused(book, "parcel(0, 6) of a thing at home", book.parcel(0, 6), 1);
    }

    private static void packingApart() {
        check.about("promises 19 to 21, bars");
        Book book = new Book();
        Check.thing(book, "jar 7 50 not skin");
        Check.thing(book, "skin 7 40");
        Check.thing(book, "book 7 30 not skin");
        Check.thing(book, "cast 7 20 not cast");
        Check.thing(book, "cast 7 10 not cast");
        Check.house(book, "3 999 9999 7");
        check.answered(book, "loan", Check.loan(book, 0, "10+4:0,1,2,3,4"), 0);
        int[] parcels = {0, 1, 0, 0, 1};
        for (int thing = 0; thing < parcels.length; thing++) {
            check.answered(book, "parcel(0, " + thing + ")", book.parcel(0, thing), parcels[thing]);
        }
        check.answered(book, "weight(0, 0)", book.weight(0, 0), 100);
        check.answered(book, "weight(0, 1)", book.weight(0, 1), 50);
    }

    private static void guarding() {
        check.about("promise 22");
        Book book = new Book();
        Check.thing(book, "jar 100 50");
        Check.thing(book, "jar 300 49");
        Check.thing(book, "jar 200 48");
        Check.thing(book, "jar 300 47");
        Check.house(book, "2 50 150 7");
        Check.courier(book, "0-999");
        Check.courier(book, "0-999");
        Check.courier(book, "0-999");
        // on the first day of the way BACK thing 0 is dear, thing 2 is not
        book.appraise(0, 16, 400);
        book.appraise(2, 15, 150);
        check.answered(book, "loan", Check.loan(book, 0, "10+4:0,1,2,3"), 0);
        int[] out = {-1, 0, 2, 1};
        // all were busy for two days: the dearest gets courier 0
        int[] back = {0, 1, -1, 2};
        for (int parcel = 0; parcel < 4; parcel++) {
            check.answered(book, "guard out " + parcel, book.guard(0, parcel, 0), out[parcel]);
            check.answered(book, "guard back " + parcel, book.guard(0, parcel, 1), back[parcel]);
        }
        book.appraise(1, 0, 1);
        book.appraise(0, 0, 9999);
        check.answered(book, "guard stays", book.guard(0, 1, 0), 0);
        check.answered(book, "guard stays away", book.guard(0, 0, 0), -1);
        check.refused(book, "guard(0, 4, 0)", book.guard(0, 4, 0), 1);
        check.refused(book, "guard(0, -1, 0)", book.guard(0, -1, 0), 1);
        check.refused(book, "guard(1, 0, 0)", book.guard(1, 0, 0), 1);
        Check.courier(book, "0-999");
        check.answered(book, "guard stays, whoever comes", book.guard(0, 0, 0), -1);
    }

    private static void guardingLeastBusy() {
        check.about("promises 22 and 23, the least busy");
        Book book = new Book();
        Check.thing(book, "jar 100 50");
        Check.thing(book, "jar 100 50");
        Check.house(book, "5 50 0 7");
        Check.house(book, "2 50 0 7");
        Check.courier(book, "0-4,6-99");
        Check.courier(book, "0-999");
        Check.courier(book, "17-19,100-104,109-113");
        check.answered(book, "loan 0", Check.loan(book, 0, "0+1:0"), 0);
        check.due("guard out", book.guard(0, 0, 0), 0);
        check.due("guard back", book.guard(0, 0, 1), 1);
        check.due("busy(0)", book.busy(0), 5);
        check.due("busy(1)", book.busy(1), 5);
        // courier 2 is the least busy, but may not travel on all of the days 16 and 17
        check.answered(book, "loan 1", Check.loan(book, 1, "16+1:0"), 1);
        check.due("guard out", book.guard(1, 0, 0), 0);
        check.due("guard back: least busy is not the first", book.guard(1, 0, 1), 1);
        check.answered(book, "loan 2", Check.loan(book, 0, "100+4:0"), 2);
        check.due("guard out", book.guard(2, 0, 0), 2);
        check.due("guard back", book.guard(2, 0, 1), 2);
        check.due("busy(2)", book.busy(2), 10);
        check.answered(book, "loan 3, as busy and as dear", Check.loan(book, 1, "30+1:0,1"), 3);
        check.due("guard out", book.guard(3, 0, 0), 0);
        check.due("guard out", book.guard(3, 1, 0), 1);
        // courier 1 alone may travel there, and goes one way behind the other
        check.answered(book, "loan 4", Check.loan(book, 1, "500+1:0"), 4);
        check.due("guard out", book.guard(4, 0, 0), 1);
        check.due("guard back", book.guard(4, 0, 1), 1);
        check.faulty(book, "the only courier is busy", Check.loan(book, 1, "504+1:1"), 8);
        check.answered(book, "loan 5", Check.loan(book, 1, "505+1:1"), 5);
    }

    private static void guardingTakenBack() {
        check.about("promise 7, refused by an 8");
        Book book = new Book();
        Check.thing(book, "jar 100 50");
        Check.thing(book, "jar 100 50");
        Check.house(book, "3 50 0 7");
        Check.courier(book, "0-20");
        Check.courier(book, "0-5");
        check.faulty(book, "one courier back for two parcels", Check.loan(book, 0, "0+3:0,1"), 8);
        check.due("busy(0)", book.busy(0), 0);
        check.due("busy(1)", book.busy(1), 0);
        check.due("with(0, 0)", book.with(0, 0), -1);
        check.due("count(3)", book.count(3), 0);
        check.due("where(0, 0)", book.where(0, 0), -1);
        check.answered(book, "loan 0", Check.loan(book, 0, "0+3:1"), 0);
        check.due("busy(0)", book.busy(0), 6);
        check.due("with(0, 6)", book.with(0, 6), 0);
        check.faulty(book, "courier 0 is busy on the way back", Check.loan(book, 0, "3+1:0"), 8);
        check.due("busy(0)", book.busy(0), 6);
        check.due("busy(1)", book.busy(1), 0);
        check.due("ready(1, 0, 6)", book.ready(1, 0, 6), 0);
    }

    private static void busyWithReady() {
        check.about("promises 23 to 25");
        Book book = new Book();
        Check.thing(book, "jar 100 50");
        Check.house(book, "3 50 0 7");
        Check.courier(book, "5-20,22-30,31-40");
        Check.loan(book, 0, "8+4:0");
        check.answered(book, "busy(0)", book.busy(0), 6);
        int[] days = {0, 7, 8, 10, 11, 14, 15, 17, 18, 999};
        int[] loans = {-1, -1, 0, 0, -1, -1, 0, 0, -1, -1};
        for (int i = 0; i < days.length; i++) {
            check.answered(book, "with(0, " + days[i] + ")", book.with(0, days[i]), loans[i]);
        }
        check.answered(book, "ready(0, 0, 3)", book.ready(0, 0, 3), 5);
        check.answered(book, "ready(0, 0, 4)", book.ready(0, 0, 4), 11);
        check.answered(book, "ready(0, 12, 4)", book.ready(0, 12, 4), 22);
        check.answered(book, "ready(0, 0, 5)", book.ready(0, 0, 5), 22);
        check.answered(book, "ready(0, 0, 19)", book.ready(0, 0, 19), 22);
        check.answered(book, "ready(0, 0, 20)", book.ready(0, 0, 20), -1);
        check.answered(book, "ready(0, 40, 1)", book.ready(0, 40, 1), 40);
        check.answered(book, "ready(0, 41, 1)", book.ready(0, 41, 1), -1);
        check.answered(book, "ready(0, 0, 1000)", book.ready(0, 0, 1000), -1);
        check.refused(book, "busy(1)", book.busy(1), 1);
        check.refused(book, "busy(-1)", book.busy(-1), 1);
        check.refused(book, "with(1, 0)", book.with(1, 0), 1);
        check.refused(book, "with(0, 1000)", book.with(0, 1000), 3);
        check.refused(book, "with(0, -1)", book.with(0, -1), 3);
        check.refused(book, "ready(1, 0, 0)", book.ready(1, 0, 0), 1);
        check.refused(book, "ready(0, 0, 0)", book.ready(0, 0, 0), 3);
        check.refused(book, "ready(0, 0, 1001)", book.ready(0, 0, 1001), 3);
        check.refused(book, "ready(0, -1, 1)", book.ready(0, -1, 1), 3);
        check.refused(book, "ready(0, 1000, 1)", book.ready(0, 1000, 1), 3);
    }

    private static Book lentBook() {
        Book book = new Book();
        Check.thing(book, "jar 100 50");
        Check.thing(book, "jar 30 40");
        Check.house(book, "2 50 50 7");
        Check.courier(book, "0-11");
        Check.courier(book, "15-99");
        Check.loan(book, 0, "10+3:0,1");
        return book;
    }

    private static void costs() {
        check.about("promise 26");
        Book book = lentBook();
        check.answered(book, "cost ahead", book.cost(0, 9), 0);
        check.answered(book, "cost out", book.cost(0, 10), 7 * 10 * (100 * 2 + 30 * 3));
        check.answered(book, "cost stay", book.cost(0, 12), 7 * 10 * (100 + 30));
        check.answered(book, "cost back", book.cost(0, 16), 7 * 10 * (100 * 2 + 30 * 3));
        check.answered(book, "cost behind", book.cost(0, 17), 0);
        Check.report(book, 0, 12, "tear 1 1, loss 1 1");
        Check.report(book, 1, 16, "tear 1 1");
        Check.report(book, 0, 13, "sound");
        book.appraise(1, 13, 1000);
        check.answered(book, "cost 11", book.cost(0, 11), 7 * 10 * (100 * 2 + 30 * 3));
        check.answered(book, "cost 12", book.cost(0, 12), 7 * (100 * 12 + 30 * 10));
        check.answered(book, "cost 13", book.cost(0, 13), 7 * (100 * 10 + 1000 * 10));
        check.answered(book, "cost 15", book.cost(0, 15), 7 * (100 * 10 * 2 + 1000 * 10 * 3));
        check.answered(book, "cost 16", book.cost(0, 16), 7 * (100 * 10 * 2 + 1000 * 11 * 3));
        Book oneWay = new Book();
        Check.thing(oneWay, "jar 100 50");
        Check.house(oneWay, "1 50 100 1");
        Check.courier(oneWay, "0-99");
        oneWay.appraise(0, 3, 101);
        Check.loan(oneWay, 0, "1+1:0");
        Check.loan(oneWay, 0, "4+1:0");
        oneWay.appraise(0, 9, 50);
        Check.loan(oneWay, 0, "7+1:0");
        int[] costs = {3000, 1000, 2020, 2020, 1010, 2020, 2020, 1010, 1500};
        for (int i = 0; i < costs.length; i++) {
            check.answered(oneWay, "cost of day " + (i + 1), oneWay.cost(i / 3, i + 1), costs[i]);
        }
        check.refused(book, "cost(1, 0)", book.cost(1, 0), 1);
        check.refused(book, "cost(0, 1000)", book.cost(0, 1000), 3);
        check.refused(book, "cost(0, -1)", book.cost(0, -1), 3);
    }

    private static void premiums() {
        check.about("promise 27");
        Book book = lentBook();
        int way = 7 * 10 * 290;
        int stay = 7 * 10 * 130;
        check.answered(book, "all of it", book.premium(0, 0, 999), (4 * way + 3 * stay) / 10000);
        check.answered(book, "its days", book.premium(0, 10, 16), (4 * way + 3 * stay) / 10000);
        check.answered(book, "one day of two", book.premium(0, 11, 11), way / 10000);
        check.answered(book, "rounded once", book.premium(0, 11, 13), (way + 2 * stay) / 10000);
        check.answered(book, "ahead", book.premium(0, 0, 9), 0);
        check.answered(book, "behind", book.premium(0, 17, 999), 0);
        check.refused(book, "a above b", book.premium(0, 12, 11), 3);
        check.refused(book, "a -1", book.premium(0, -1, 11), 3);
        check.refused(book, "b 1000", book.premium(0, 11, 1000), 3);
        check.refused(book, "premium(1, 0, 0)", book.premium(1, 0, 0), 1);
        Book edge = new Book();
        Check.thing(edge, "jar 1000 1");
        Check.house(edge, "1 1 9999 1");
        Check.loan(edge, 0, "0+1:0");
        check.answered(edge, "10000", edge.premium(0, 1, 1), 1);
        edge.appraise(0, 1, 909);
        Check.report(edge, 0, 1, "tear 1 1");
        check.answered(edge, "9999", edge.premium(0, 1, 1), 0);
        Book dear = new Book();
        for (int i = 0; i < 16; i++) {
            Check.thing(dear, "jar 9999 1");
        }
        Check.house(dear, "30 1 9999 99");
        Check.loan(dear, 0, "0+300:0,1,2,3,4,5,6,7,8,9,10,11,12,13,14,15");
        long all = 9999L * 99 * 10 * 16 * (300 + 60 * 3);
        check.answered(dear, "above an int on the way", dear.premium(0, 0, 999), (int) (all / 10000));
        check.answered(dear, "dearest", dear.dearest(0), 0);
        check.answered(dear, "cost", dear.cost(0, 0), 9999 * 99 * 10 * 16 * 3);
    }

    private static void dearestDays() {
        check.about("promise 28");
        Book book = lentBook();
        check.answered(book, "the first of several", book.dearest(0), 10);
        book.appraise(0, 16, 101);
        check.answered(book, "the last", book.dearest(0), 16);
        book.appraise(0, 13, 9999);
        book.appraise(0, 14, 9999);
        book.appraise(0, 15, 1);
        check.answered(book, "one of the stay", book.dearest(0), 13);
        book.appraise(0, 5, 9999);
        book.appraise(0, 17, 9999);
        check.answered(book, "out", book.dearest(0), 10);
        check.refused(book, "dearest(1)", book.dearest(1), 1);
        check.refused(book, "dearest(-1)", book.dearest(-1), 1);
    }

    private static void harmsAndNotes() {
        check.about("promises 29 and 30");
        Book book = new Book();
        Check.thing(book, "jar 100 50");
        Check.thing(book, "jar 100 50");
        check.answered(book, "no report", book.harms(0, 999), 0);
        check.refused(book, "no report", book.note(0, 999, 0), 1);
        Check.report(book, 0, 20, "loss 9 9,crack 12 034 , tear 7 1, crack 2 5,stain 0 99, tear 6 1");
        Check.report(book, 0, 10, "sound");
        Check.report(book, 0, 30, "stain 1 1");
        check.answered(book, "harms(0, 9)", book.harms(0, 9), 0);
        check.answered(book, "harms(0, 10)", book.harms(0, 10), 0);
        check.answered(book, "harms(0, 20)", book.harms(0, 20), 6);
        check.answered(book, "harms(0, 29)", book.harms(0, 29), 6);
        check.answered(book, "harms(0, 30)", book.harms(0, 30), 1);
        check.answered(book, "harms(1, 30)", book.harms(1, 30), 0);
        check.refused(book, "note(0, 9, 0)", book.note(0, 9, 0), 1);
        noted(book, 0, 10, "sound");
        noted(book, 0, 19, "sound");
        noted(book, 0, 29, "tear 6 1, tear 7 1, stain 0 99, crack 2 5, crack 12 34, loss 9 9");
        noted(book, 0, 999, "stain 1 1");
        check.refused(book, "harms(2, 0)", book.harms(2, 0), 1);
        check.refused(book, "harms(0, 1000)", book.harms(0, 1000), 3);
        check.refused(book, "harms(0, -1)", book.harms(0, -1), 3);
        Check.report(book, 1, 0, "tear0 1,tear1 1,tear2 1,tear3 1,tear4 1,tear5 1,tear6 1,tear7 1,tear8 1,tear9 1,"
            + "loss0 1,loss1 1,loss2 1,loss3 1,loss4 1");
        noted(book, 1, 0, "tear 0 1, tear 1 1, tear 2 1, tear 3 1, tear 4 1, tear 5 1, tear 6 1, tear 7 1, tear 8 1, "
            + "tear 9 1, loss 0 1, loss 1 1, loss 2 1, loss 3 1, loss 4 1");
        check.answered(book, "harms(1, 0)", book.harms(1, 0), 15);
    }

    private static void damages() {
        check.about("promise 31");
        Book book = new Book();
        Check.thing(book, "jar 100 50");
        Check.thing(book, "jar 100 50");
        Check.report(book, 0, 20, "tear 1 5, stain 1 5, crack 1 5, loss 1 5");
        check.answered(book, "none ahead", book.damage(0, 20), 0);
        Check.report(book, 0, 30, "tear 1 6, stain 1 7, crack 1 8, loss 1 9");
        check.answered(book, "each sort", book.damage(0, 30), 100 * (3 + 2 * 2 + 3 * 5 + 4 * 8));
        Check.report(book, 0, 40, "tear 1 1, loss 2 4, crack 2 1");
        check.answered(book, "new spots, and one smaller", book.damage(0, 40), 100 * (4 * 8 + 5));
        Check.report(book, 0, 50, "sound");
        check.answered(book, "sound", book.damage(0, 50), 0);
        Check.report(book, 0, 60, "tear 1 1");
        check.answered(book, "above a sound one", book.damage(0, 60), 100 * 3);
        Check.report(book, 0, 25, "loss 1 9");
        check.answered(book, "another one is ahead now", book.damage(0, 30), 100 * (6 * 3 + 7 * 2 + 8 * 5));
        book.appraise(0, 30, 7);
        book.appraise(0, 31, 9);
        check.answered(book, "the value of its day", book.damage(0, 30), 7 * (6 * 3 + 7 * 2 + 8 * 5));
        check.refused(book, "no such report", book.damage(0, 21), 1);
        check.refused(book, "of the other thing", book.damage(1, 20), 1);
        check.refused(book, "damage(2, 20)", book.damage(2, 20), 1);
        check.refused(book, "damage(0, 1000)", book.damage(0, 1000), 3);
        check.refused(book, "damage(2, 1000)", book.damage(2, 1000), 1);
        check.refused(book, "damage(0, -1)", book.damage(0, -1), 3);
    }

    private static void bearers() {
        check.about("promise 32");
        Book book = new Book();
        Check.thing(book, "jar 100 50");
        Check.thing(book, "jar 100 50");
        Check.house(book, "1 50 9999 7");
        Check.loan(book, 0, "30+3:0");
        Check.loan(book, 0, "10+3:0");
        Check.loan(book, 0, "20+4:0");
        Check.loan(book, 0, "0+300:1");
        Check.report(book, 0, 5, "sound");
        check.answered(book, "none ahead", book.bearer(0, 5), -1);
        Check.report(book, 0, 14, "sound");
        check.answered(book, "the only one", book.bearer(0, 14), 1);
        Check.report(book, 0, 34, "sound");
        check.answered(book, "the most days", book.bearer(0, 34), 2);
        book.cancel(2);
        check.answered(book, "it stands no more", book.bearer(0, 34), 0);
        Check.report(book, 0, 30, "sound");
        check.answered(book, "its own day too", book.bearer(0, 30), 0);
        Check.report(book, 0, 29, "sound");
        check.answered(book, "no days of a loan", book.bearer(0, 29), -1);
        Check.report(book, 0, 9, "sound");
        Check.report(book, 0, 900, "sound");
        check.answered(book, "not the day of the one ahead", book.bearer(0, 900), -1);
        check.refused(book, "no such report", book.bearer(0, 31), 1);
        check.refused(book, "bearer(2, 5)", book.bearer(2, 5), 1);
        check.refused(book, "bearer(0, 1000)", book.bearer(0, 1000), 3);
        check.refused(book, "bearer(2, 1000)", book.bearer(2, 1000), 1);
        Book even = new Book();
        Check.thing(even, "jar 100 50");
        Check.house(even, "1 50 9999 7");
        Check.loan(even, 0, "30+3:0");
        Check.loan(even, 0, "10+3:0");
        Check.report(even, 0, 5, "sound");
        Check.report(even, 0, 50, "sound");
        check.answered(even, "as many days, the first day is less", even.bearer(0, 50), 1);
        even.cancel(1);
        Check.loan(even, 0, "4+5:0");
        Check.loan(even, 0, "40+3:0");
        Check.report(even, 0, 10, "sound");
        check.answered(even, "loans in part", even.bearer(0, 10), 2);
        Check.report(even, 0, 41, "sound");
        check.answered(even, "loans in part", even.bearer(0, 41), 0);
        Check.report(even, 0, 43, "sound");
        check.answered(even, "one of its days", even.bearer(0, 43), 3);
        Book rising = new Book();
        Check.thing(rising, "jar 100 50");
        Check.house(rising, "1 50 9999 7");
        Check.loan(rising, 0, "10+3:0");
        Check.loan(rising, 0, "30+3:0");
        Check.report(rising, 0, 9, "sound");
        Check.report(rising, 0, 50, "sound");
        check.answered(rising, "as many days, the first day is less", rising.bearer(0, 50), 0);
        Check.report(rising, 0, 10, "sound");
        check.answered(rising, "its first day alone", rising.bearer(0, 10), 0);
        Check.report(rising, 0, 34, "sound");
        Check.report(rising, 0, 33, "sound");
        check.answered(rising, "its last day alone", rising.bearer(0, 34), 1);
    }

    private static void chargesAndHome() {
        check.about("promises 33 and 34");
        Book book = new Book();
        Check.thing(book, "jar 100 50");
        Check.thing(book, "jar 50 40");
        Check.house(book, "1 90 9999 7");
        Check.loan(book, 0, "10+5:0,1");
        check.answered(book, "charge(0)", book.charge(0), 0);
        Check.report(book, 0, 5, "sound");
        Check.report(book, 0, 12, "tear 1 3");
        Check.report(book, 0, 14, "tear 1 3, stain 1 3");
        Check.report(book, 1, 5, "sound");
        Check.report(book, 1, 20, "loss 1 2");
        // 900 + 600 + 800
        check.answered(book, "charge(0)", book.charge(0), 2);
        Check.report(book, 0, 30, "loss 1 1");
        // 800, and on the days 15 and 16 the loan has the thing
        check.answered(book, "charge(0)", book.charge(0), 3);
        check.due("home()", book.home(), 0);
        Check.report(book, 0, 16, "sound");
        check.answered(book, "charge(0)", book.charge(0), 2);
        Check.report(book, 1, 40, "loss 1 9");
        // 800 + 2800
        check.due("home()", book.home(), 3);
        check.due("status() behind home()", book.status(), 0);
        book.cancel(0);
        check.due("home() of all", book.home(), 5);
        check.refused(book, "charge(0) behind cancel(0)", book.charge(0), 1);
        check.due("home()", book.home(), 5);
        check.due("status() stays behind home()", book.status(), 1);
        Book edge = new Book();
        Check.thing(edge, "jar 333 50");
        Check.report(edge, 0, 5, "sound");
        Check.report(edge, 0, 6, "tear 1 1");
        check.due("home() of 999", edge.home(), 0);
        Check.report(edge, 0, 8, "stain 2 1");
        edge.appraise(0, 6, 1);
        edge.appraise(0, 8, 498);
        check.due("home() of 3 and 996", edge.home(), 0);
        edge.appraise(0, 6, 2);
        edge.appraise(0, 8, 497);
        check.due("home() of 6 and 994", edge.home(), 1);
        check.refused(book, "charge(-1)", book.charge(-1), 1);
        check.refused(book, "charge(1)", book.charge(1), 1);
    }

    private static void letters() {
        check.about("promise 35");
        Book book = new Book();
        Check.thing(book, "cast0012 007 not book not jar notsheet".replace("notsheet", "not sheet"));
        Check.thing(book, "skin 9999 999 not cast not skin not book not jar not sheet");
        Check.house(book, "02 0100 0000 09");
        Check.courier(book, "0-04 ,007- 12,0900-999");
        Check.courier(book, "0-0,1-1,2-2,3-3,4-4,5-5,6-6,7-7,8-8,9-9,10-10,11-11,12-12,13-13,14-14,15-15,16-16,17-17,"
            + "18-18,19-19,20-20");
        written(book, 0, 0, "cast 12 7 not sheet not jar not book");
        written(book, 0, 1, "skin 9999 999 not sheet not jar not skin not cast not book");
        written(book, 1, 0, "2 100 0 9");
        written(book, 2, 0, "0-4, 7-12, 900-999");
        written(book, 2, 1, "0-0, 1-1, 2-2, 3-3, 4-4, 5-5, 6-6, 7-7, 8-8, 9-9, 10-10, 11-11, 12-12, 13-13, 14-14, "
            + "15-15, 16-16, 17-17, 18-18, 19-19, 20-20");
        check.refused(book, "letter(0, 2, 0)", book.letter(0, 2, 0), 1);
        check.refused(book, "letter(1, 1, 0)", book.letter(1, 1, 0), 1);
        check.refused(book, "letter(2, 2, 0)", book.letter(2, 2, 0), 1);
        check.refused(book, "letter(2, -1, 0)", book.letter(2, -1, 0), 1);
        check.refused(book, "letter(3, 0, 0)", book.letter(3, 0, 0), 3);
    }

    private static void statusOfCalls() {
        check.about("promise 36");
        Book book = new Book();
        book.end(1);
        check.due("status()", book.status(), 3);
        check.due("status() again", book.status(), 3);
        book.place();
        book.fault();
        book.home();
        check.due("status() behind place(), fault(), home()", book.status(), 3);
        book.end(0);
        check.due("status() behind end(0)", book.status(), 0);
        book.cancel(0);
        check.due("status() behind cancel(0)", book.status(), 1);
        book.feed(0, 0, 0, 0, 0);
        check.due("status() behind feed()", book.status(), 0);
        book.thing();
        check.due("status() behind thing()", book.status(), 2);
    }

    /** Nothing is thrown, whatever the numbers are, and what is there stays as it is. */
    private static void numbersOutOfReach() {
        check.about("numbers out of reach");
        Book book = lentBook();
        for (int far : FAR) {
            check.refused(book, "end", book.end(far), 3);
            check.refused(book, "loan", book.loan(far), 1);
            check.refused(book, "report", book.report(far, 0), 1);
            check.refused(book, "appraise", book.appraise(far, 0, 1), 1);
            check.refused(book, "cancel", book.cancel(far), 1);
            check.refused(book, "count", book.count(far), 3);
            check.refused(book, "together", book.together(0, far), 1);
            check.refused(book, "parcels", book.parcels(far), 1);
            check.refused(book, "parcel", book.parcel(0, far), 1);
            check.refused(book, "weight", book.weight(0, far), 1);
            check.refused(book, "guard", book.guard(0, far, 0), 1);
            check.refused(book, "way", book.guard(0, 0, far), 3);
            check.refused(book, "busy", book.busy(far), 1);
            check.refused(book, "dearest", book.dearest(far), 1);
            check.refused(book, "charge", book.charge(far), 1);
            check.refused(book, "letter", book.letter(far, 0, 0), 3);
            check.refused(book, "number", book.letter(0, far, 0), 1);
            check.refused(book, "note", book.note(0, 0, far), 1);
        }
        for (int far : new int[] {Integer.MIN_VALUE, -1, 1000, Integer.MAX_VALUE}) {
            check.refused(book, "premium", book.premium(0, far, 5), 3);
            check.refused(book, "premium", book.premium(0, 5, far), 3);
            check.refused(book, "free", book.free(0, far, 5), 3);
            check.refused(book, "ready", book.ready(0, far, 5), 3);
            check.refused(book, "stage", book.stage(0, far), 3);
            check.refused(book, "bearer", book.bearer(0, far), 3);
        }
        for (int far : new int[] {Integer.MIN_VALUE, -1, 0, 1001, Integer.MAX_VALUE}) {
            check.refused(book, "free", book.free(0, 5, far), 3);
            check.refused(book, "ready", book.ready(0, 5, far), 3);
        }
        check.due("count(0)", book.count(0), 2);
        check.due("count(4)", book.count(4), 1);
    }
}
