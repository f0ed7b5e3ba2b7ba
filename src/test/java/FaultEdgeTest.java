/** FAULTS 1 to 11: the last number that each one lets pass and the first that it does not, and which of two is told. */
public final class FaultEdgeTest {
    private static final String FIVE_NOTS = " not sheet not jar not skin not cast not book";
    private static final Check check = new Check();

    public static void main(String[] args) {
        fault1();
        fault2();
        leastFaultOfThings();
        fault3();
        fault4();
        fault5();
        fault5OfThings();
        fault6();
        fault7();
        fault8();
        fault8OfDays();
        leastFaultOfLoans();
        fault9();
        fault10();
        fault11();
        leastFaultOfReports();
        faultStays();
        faultsCountNothing();
        check.close();
    }

    /** HOUSES 0 and 1 lie one and thirty DAYS away; THING 1 weighs more than they take; none of them wants a COURIER. */
    private static Book lending() {
        Book book = new Book();
        Check.house(book, "1 50 9999 1");
        Check.house(book, "30 50 9999 1");
        Check.thing(book, "jar 100 50");
        Check.thing(book, "jar 100 51");
        Check.thing(book, "jar 100 1");
        return book;
    }

    private static void taken(String what, String text) {
        Book book = lending();
        int number = what.equals("thing") ? 3 : what.equals("house") ? 2 : what.equals("report") ? 1 : 0;
        check.taken(book, what + "() of '" + text + "'", Check.read(book, what, text), number);
    }

    private static void faulty(String what, String text, int fault) {
        Book book = lending();
        check.faulty(book, what + "() of '" + text + "'", Check.read(book, what, text), fault);
    }

    // ---- things ----

    private static void fault1() {
        check.about("FAULT 1: 'n is 1 or more, m is from 1 to 999'");
        faulty("thing", "jar 0 5", 1);
        faulty("thing", "jar 0000 5", 1);
        taken("thing", "jar 1 5");
        taken("thing", "jar 9999 5");
        faulty("thing", "jar 5 0", 1);
        taken("thing", "jar 5 1");
        taken("thing", "jar 5 999");
        faulty("thing", "jar 5 1000", 1);
        faulty("thing", "jar 5 9999", 1);
    }

    private static void fault2() {
        check.about("FAULT 2: 'No KIND stands behind two nots'");
        String[] kinds = {"sheet", "jar", "skin", "cast", "book"};
        for (String one : kinds) {
            taken("thing", "jar 5 5 not " + one);
            for (String other : kinds) {
                if (one.equals(other)) {
                    faulty("thing", "jar 5 5 not " + one + " not " + other, 2);
                } else {
                    taken("thing", "jar 5 5 not " + one + " not " + other);
                    faulty("thing", "jar 5 5 not " + one + " not " + other + " not " + one, 2);
                }
            }
            taken("thing", one + " 5 5" + FIVE_NOTS);
            faulty("thing", one + " 5 5" + FIVE_NOTS + " not " + one, 2);
        }
        // whatever the numbers ahead of them are
        for (int number = 1; number <= 70; number++) {
            taken("thing", "jar " + number + " 5" + FIVE_NOTS);
            taken("thing", "jar 5 " + number + FIVE_NOTS);
        }
    }

    private static void leastFaultOfThings() {
        check.about("'is refused by a FAULT .. the least number', of a THING");
        faulty("thing", "jar 0 5 not jar not jar", 1);
        faulty("thing", "jar 5 0 not jar not jar", 1);
        faulty("thing", "jar 5 1000 not jar not jar", 1);
        faulty("thing", "jar 1 999 not jar not jar", 2);
    }

    // ---- houses, couriers ----

    private static void fault3() {
        check.about("FAULT 3: 'n is from 1 to 30, m is 1 or more, p is from 1 to 99'");
        faulty("house", "0 5 5 5", 3);
        taken("house", "1 5 5 5");
        taken("house", "30 5 5 5");
        faulty("house", "31 5 5 5", 3);
        faulty("house", "9999 5 5 5", 3);
        faulty("house", "5 0 5 5", 3);
        taken("house", "5 1 5 5");
        taken("house", "5 9999 5 5");
        faulty("house", "5 5 5 0", 3);
        taken("house", "5 5 5 1");
        taken("house", "5 5 5 99");
        faulty("house", "5 5 5 100", 3);
        faulty("house", "5 5 5 9999", 3);
        // of the GUARD nothing is asked
        taken("house", "5 5 0 5");
        taken("house", "5 5 9999 5");
        faulty("house", "0 0 0 0", 3);
    }

    private static void fault4() {
        check.about("FAULT 4: 'of each SPAN s is t or less, and t is 999 or less; the s of each SPAN but the first is above'");
        taken("courier", "0-0");
        taken("courier", "999-999");
        taken("courier", "0-999");
        taken("courier", "5-5");
        faulty("courier", "6-5", 4);
        faulty("courier", "9999-0", 4);
        faulty("courier", "999-1000", 4);
        faulty("courier", "1000-1000", 4);
        faulty("courier", "0-9999", 4);
        taken("courier", "0-5,6-6");
        taken("courier", "0-5,6-999");
        faulty("courier", "0-5,5-6", 4);
        faulty("courier", "3-5,0-2", 4);
        faulty("courier", "3-5,3-5", 4);
        faulty("courier", "0-5,7-6", 4);
        faulty("courier", "0-5,6-1000", 4);
        taken("courier", "0-0,1-1,2-2");
        faulty("courier", "0-0,1-1,1-2", 4);
        faulty("courier", "0-0,5-5,1-2", 4);
        faulty("courier", "0-0,5-4,6-7", 4);
        faulty("courier", "0-0,2-1000,1001-1001", 4);
    }

    // ---- loans ----

    private static void lent(int house, String text, int fault) {
        Book book = lending();
        int got = Check.loan(book, house, text);
        if (fault == 0) {
            check.taken(book, "loan(" + house + ") of '" + text + "'", got, 0);
        } else {
            check.faulty(book, "loan(" + house + ") of '" + text + "'", got, fault);
        }
    }

    private static void fault5() {
        check.about("FAULT 5: 't is from 1 to 300, and s + 2 * d + t - 1 is 999 or less'");
        lent(0, "0+0:0", 5);
        lent(0, "0+1:0", 0);
        lent(0, "0+300:0", 0);
        lent(0, "0+301:0", 5);
        lent(0, "0+9999:0", 5);
        lent(0, "997+1:0", 0);
        lent(0, "998+1:0", 5);
        lent(0, "698+300:0", 0);
        lent(0, "699+300:0", 5);
        lent(0, "9999+1:0", 5);
        lent(1, "939+1:0", 0);
        lent(1, "940+1:0", 5);
        lent(1, "640+300:0", 0);
        lent(1, "641+300:0", 5);
        lent(1, "640+301:0", 5);
        lent(1, "0+301:0", 5);
        lent(1, "9999+9999:0", 5);
    }

    private static void fault5OfThings() {
        check.about("FAULT 5: 'each n is the number of a THING, and each but the first is above the one ahead'");
        lent(0, "0+1:2", 0);
        lent(0, "0+1:3", 5);
        lent(0, "0+1:9999", 5);
        lent(0, "0+1:0,2", 0);
        lent(0, "0+1:0,3", 5);
        lent(0, "0+1:0,2,3", 5);
        lent(0, "0+1:0,0", 5);
        lent(0, "0+1:2,0", 5);
        lent(0, "0+1:2,2", 5);
        lent(0, "0+1:0,2,2", 5);
        lent(0, "0+1:0,2,0", 5);
        Book none = new Book();
        Check.house(none, "1 50 9999 1");
        check.faulty(none, "0 is no THING yet", Check.loan(none, 0, "0+1:0"), 5);
        Check.thing(none, "jar 1 1");
        check.taken(none, "0 is one", Check.loan(none, 0, "0+1:0"), 0);
    }

    private static void fault6() {
        check.about("FAULT 6: 'None of its THINGS is in a LOAN that STANDS and has one of these DAYS, too'");
        // the LOAN that STANDS has the DAYS 100 to 106
        String[] clear = {"95+3:0", "107+1:0", "0+98:0", "107+300:0"};
        String[] taken = {"96+3:0", "106+1:0", "0+99:0", "100+5:0", "101+1:0", "50+100:0", "106+300:0", "98+1:0"};
        for (String text : clear) {
            Book book = lending();
            Check.loan(book, 0, "100+5:0");
            check.taken(book, "loan() of '" + text + "'", Check.loan(book, 0, text), 1);
        }
        for (String text : taken) {
            Book book = lending();
            Check.loan(book, 0, "100+5:0");
            check.faulty(book, "loan() of '" + text + "'", Check.loan(book, 0, text), 6);
            check.faulty(book, "its last THING", Check.loan(book, 0, text + ",2"), 6);
            check.taken(book, "another THING", Check.loan(book, 0, text.replace(":0", ":2")), 1);
            book.cancel(1);
            book.cancel(0);
            check.taken(book, "when it STANDS no more", Check.loan(book, 0, text), 2);
        }
        Book book = lending();
        Check.loan(book, 0, "100+5:2");
        check.faulty(book, "the last of two", Check.loan(book, 0, "106+1:0,2"), 6);
        check.taken(book, "the day behind", Check.loan(book, 0, "107+1:0,2"), 1);
    }

    private static void fault7() {
        check.about("FAULT 7: 'None of its THINGS weighs more than the LIMIT of the HOUSE'");
        lent(0, "0+1:0", 0);
        lent(0, "0+1:1", 7);
        lent(0, "0+1:0,1", 7);
        lent(0, "0+1:1,2", 7);
        // together they may weigh more
        lent(0, "0+1:0,2", 0);
        Book light = new Book();
        Check.house(light, "1 1 9999 1");
        Check.thing(light, "jar 1 1");
        Check.thing(light, "jar 1 2");
        check.taken(light, "weight 1", Check.loan(light, 0, "0+1:0"), 0);
        check.faulty(light, "weight 2", Check.loan(light, 0, "0+1:1"), 7);
    }

    private static Book guarded(String... couriers) {
        Book book = new Book();
        Check.house(book, "3 50 99 1");
        Check.thing(book, "jar 99 50");
        Check.thing(book, "jar 100 50");
        Check.thing(book, "jar 100 50");
        for (String courier : couriers) {
            Check.courier(book, courier);
        }
        return book;
    }

    private static void fault8() {
        check.about("FAULT 8: 'Each of its PARCELS that WANTS a COURIER gets one'");
        Book none = guarded();
        check.taken(none, "as dear as the GUARD", Check.loan(none, 0, "0+1:0"), 0);
        check.faulty(none, "dearer by one", Check.loan(none, 0, "10+1:1"), 8);
        Book one = guarded("0-999");
        check.taken(one, "one for one", Check.loan(one, 0, "0+1:0,1"), 0);
        Book two = guarded("0-999");
        check.faulty(two, "one for two", Check.loan(two, 0, "0+1:1,2"), 8);
        Book enough = guarded("0-999", "0-999");
        check.taken(enough, "two for two", Check.loan(enough, 0, "0+1:1,2"), 0);
        // the THING is worth more than the GUARD on the first DAY of one way alone
        Book back = guarded("0-2");
        back.appraise(0, 4, 100);
        check.faulty(back, "none on the way back", Check.loan(back, 0, "0+1:0"), 8);
        back.appraise(0, 4, 99);
        back.appraise(0, 5, 9999);
        check.taken(back, "not dear on its first day", Check.loan(back, 0, "0+1:0"), 0);
    }

    private static void fault8OfDays() {
        check.about("FAULT 8: 'of the COURIERS that MAY TRAVEL on all DAYS of the way, and are BUSY on none of them'");
        // the ways have the DAYS 10 to 12 and 18 to 20
        String[] gets = {"10-12,18-20", "0-999", "10-20", "10-10,11-11,12-12,18-19,20-20"};
        String[] lacks = {"11-20", "10-19", "10-11,13-20", "10-12,19-20", "0-11,13-999", "10-10,12-20", "10-18,20-20"};
        for (String courier : gets) {
            Book book = guarded(courier);
            check.taken(book, "a courier of " + courier, Check.loan(book, 0, "10+5:1"), 0);
        }
        for (String courier : lacks) {
            Book book = guarded(courier);
            check.faulty(book, "a courier of " + courier, Check.loan(book, 0, "10+5:1"), 8);
        }
        // the other LOAN, of THING 2, has the ways s to s + 2 and s + 8 to s + 10
        for (int s = 0; s <= 21; s++) {
            boolean meets = s <= 4 || s >= 8 && s <= 12 || s >= 16 && s <= 20;
            Book book = guarded("0-999");
            check.taken(book, "the other loan", Check.loan(book, 0, s + "+5:2"), 0);
            int got = Check.loan(book, 0, "10+5:1");
            if (meets) {
                check.faulty(book, "busy from " + s, got, 8);
                book.cancel(0);
                check.taken(book, "busy no more", Check.loan(book, 0, "10+5:1"), 1);
            } else {
                check.taken(book, "busy from " + s, got, 1);
            }
        }
    }

    private static void leastFaultOfLoans() {
        check.about("'A right LOAN is refused by the least FAULT'");
        // THING 0 is lent from 0 to 6, 1 weighs too much, 2 wants a COURIER that there is not, 3 is lent and weighs too much
        Book book = new Book();
        Check.house(book, "1 50 99 1");
        Check.house(book, "1 60 9999 1");
        Check.thing(book, "jar 100 50");
        Check.thing(book, "jar 99 51");
        Check.thing(book, "jar 100 50");
        Check.thing(book, "jar 99 51");
        check.taken(book, "lent", Check.loan(book, 1, "0+5:0,3"), 0);
        check.faulty(book, "5 and 6", Check.loan(book, 0, "0+301:0"), 5);
        check.faulty(book, "5 and 6, no such THING", Check.loan(book, 0, "0+1:0,4"), 5);
        check.faulty(book, "5 and 6, falling", Check.loan(book, 0, "0+1:2,0"), 5);
        check.faulty(book, "5 and 7", Check.loan(book, 0, "0+0:1"), 5);
        check.faulty(book, "5 and 7, no such THING", Check.loan(book, 0, "0+1:1,9999"), 5);
        check.faulty(book, "5 and 8", Check.loan(book, 0, "998+1:2"), 5);
        check.faulty(book, "5 and 8, the same twice", Check.loan(book, 0, "0+1:2,2"), 5);
        check.faulty(book, "6 ahead of 7", Check.loan(book, 0, "0+1:0,1"), 6);
        check.faulty(book, "7 ahead of 6, of other THINGS", Check.loan(book, 0, "0+1:1,3"), 6);
        check.faulty(book, "6 and 7 of one THING", Check.loan(book, 0, "0+1:3"), 6);
        check.faulty(book, "6 and 8", Check.loan(book, 0, "0+1:0,2"), 6);
        check.faulty(book, "6, 7 and 8", Check.loan(book, 0, "6+1:0,1,2"), 6);
        check.faulty(book, "7 and 8", Check.loan(book, 0, "7+1:0,1,2"), 7);
        check.faulty(book, "8", Check.loan(book, 0, "7+1:0,2"), 8);
        check.due("count(3)", book.count(3), 1);
    }

    // ---- reports ----

    private static void fault9() {
        check.about("FAULT 9: 'Of each HARM n is 99 or less, m is from 1 to 99'");
        for (String sort : new String[] {"tear", "stain", "crack", "loss"}) {
            taken("report", sort + " 0 5");
            taken("report", sort + " 99 5");
            faulty("report", sort + " 100 5", 9);
            faulty("report", sort + " 9999 5", 9);
            faulty("report", sort + " 5 0", 9);
            taken("report", sort + " 5 1");
            taken("report", sort + " 5 99");
            faulty("report", sort + " 5 100", 9);
            faulty("report", sort + " 5 9999", 9);
            faulty("report", "tear 1 1, loss 1 1, " + sort + " 100 5", 9);
            faulty("report", "tear 1 1, loss 1 1, " + sort + " 5 100", 9);
            faulty("report", sort + " 5 0, tear 1 1, loss 1 1", 9);
            faulty("report", "tear 1 1, " + sort + " 5 0, loss 1 1", 9);
        }
    }

    private static void fault10() {
        check.about("FAULT 10: 'No two HARMS have the same SORT and the same SPOT'");
        String[] sorts = {"tear", "stain", "crack", "loss"};
        for (String one : sorts) {
            for (String other : sorts) {
                if (one.equals(other)) {
                    faulty("report", one + " 5 1, " + other + " 5 1", 10);
                    faulty("report", one + " 5 1, " + other + " 5 2", 10);
                    faulty("report", one + " 5 1, " + other + " 05 1", 10);
                } else {
                    taken("report", one + " 5 1, " + other + " 5 1");
                    faulty("report", one + " 5 1, " + other + " 5 1, " + one + " 5 1", 10);
                }
                taken("report", one + " 5 1, " + other + " 6 1");
                // the last SPOT of a SORT and the first of the next one are two
                taken("report", one + " 99 1, " + other + " 0 1");
            }
        }
        faulty("report", "tear0 1,tear1 1,tear2 1,tear3 1,tear4 1,tear5 1,tear6 1,tear7 1,tear8 1,tear9 1,"
            + "loss0 1,loss1 1,loss2 1,loss3 1,loss3 1", 10);
        faulty("report", "tear0 1,tear1 1,tear2 1,tear3 1,tear4 1,tear5 1,tear6 1,tear7 1,tear8 1,tear9 1,"
            + "loss0 1,loss1 1,loss2 1,loss3 1,tear0 1", 10);
    }

    private static void fault11() {
        check.about("FAULT 11: 'There is no REPORT of the same THING and DAY'");
        Book book = lending();
        check.taken(book, "day 5", Check.report(book, 0, 5, "sound"), 1);
        check.faulty(book, "day 5 again", Check.report(book, 0, 5, "sound"), 11);
        check.faulty(book, "day 5 again, with harms", Check.report(book, 0, 5, "tear 1 1"), 11);
        check.taken(book, "day 4", Check.report(book, 0, 4, "sound"), 2);
        check.taken(book, "day 6", Check.report(book, 0, 6, "sound"), 3);
        check.faulty(book, "day 4 again", Check.report(book, 0, 4, "sound"), 11);
        check.faulty(book, "day 6 again", Check.report(book, 0, 6, "sound"), 11);
        check.taken(book, "day 5 of another THING", Check.report(book, 1, 5, "sound"), 1);
        for (int day : new int[] {0, 999}) {
            check.taken(book, "day " + day, Check.report(book, 2, day, "sound"), day == 0 ? 1 : 2);
            check.faulty(book, "day " + day + " again", Check.report(book, 2, day, "sound"), 11);
        }
    }

    private static void leastFaultOfReports() {
        check.about("'A right REPORT is refused by the least FAULT'");
        faulty("report", "tear 5 0, tear 5 0", 9);
        faulty("report", "tear 5 1, tear 5 1, loss 5 0", 9);
        faulty("report", "tear 100 1, tear 100 1", 9);
        Book book = lending();
        Check.report(book, 0, 5, "sound");
        check.faulty(book, "9 and 11", Check.report(book, 0, 5, "tear 5 100"), 9);
        check.faulty(book, "10 and 11", Check.report(book, 0, 5, "tear 5 1, tear 5 2"), 10);
        check.faulty(book, "9, 10 and 11", Check.report(book, 0, 5, "tear 5 1, tear 5 2, loss 100 1"), 9);
        check.faulty(book, "11", Check.report(book, 0, 5, "tear 5 1, tear 6 2"), 11);
    }

    // ---- fault() ----

    private static void faultStays() {
        check.about("'The FAULT of the latest text that was read; 0 if it had none, and ahead of one'");
        Book book = new Book();
        check.due("fault() ahead of a text", book.fault(), 0);
        Check.house(book, "0 1 1 1");
        check.due("fault()", book.fault(), 3);
        book.count(0);
        book.end(1);
        book.cancel(0);
        book.value(0, 0);
        book.feed(0, 0, 0, 0, 0);
        check.due("fault() behind other calls", book.fault(), 3);
        check.refused(book, "loan() without a HOUSE", book.loan(0), 1);
        check.due("fault() behind a text that was not read", book.fault(), 3);
        Check.thing(book, "jar");
        check.due("fault() of a WRONG text", book.fault(), 0);
        Check.house(book, "31 1 1 1");
        Check.thing(book, "jar 1 1");
        check.due("fault() of a right text", book.fault(), 0);
        Check.thing(book, "jar 1 1 not jar not jar");
        check.due("fault() of another one", book.fault(), 2);
    }

    private static void faultsCountNothing() {
        check.about("what a FAULT refuses is not there");
        Book book = lending();
        check.faulty(book, "thing", Check.thing(book, "jar 0 1"), 1);
        check.faulty(book, "house", Check.house(book, "0 1 1 1"), 3);
        check.faulty(book, "courier", Check.courier(book, "1-0"), 4);
        check.faulty(book, "loan", Check.loan(book, 0, "0+0:0"), 5);
        check.faulty(book, "report", Check.report(book, 0, 5, "tear 5 0"), 9);
        int[] counts = {3, 2, 0, 0, 0, 0, 0};
        for (int what = 0; what < counts.length; what++) {
            check.answered(book, "count(" + what + ")", book.count(what), counts[what]);
        }
        check.taken(book, "thing", Check.thing(book, "jar 1 1"), 3);
        check.taken(book, "house", Check.house(book, "1 1 1 1"), 2);
        check.taken(book, "courier", Check.courier(book, "1-1"), 0);
        check.taken(book, "loan", Check.loan(book, 0, "0+1:0"), 0);
        check.taken(book, "report", Check.report(book, 0, 5, "tear 5 1"), 1);
    }
}
