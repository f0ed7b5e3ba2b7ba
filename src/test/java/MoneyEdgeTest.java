/** Terms 5 and 6: what a LOAN COSTS, what REPORTS tell, and who pays; each sentence with a bound on both sides of it. */
public final class MoneyEdgeTest {
    private static final String MOST_HARMS = "tear0 1,tear1 1,tear2 1,tear3 1,tear4 1,tear5 1,tear6 1,tear7 1,tear8 1,tear9 1,"
        + "loss0 1,loss1 1,loss2 1,loss3 1,loss4 1";
    private static final String WORST_HARMS = "loss0 99,loss1 99,loss2 99,loss3 99,loss4 99,loss5 99,loss6 99,loss7 99,loss8 99,"
        + "loss9 99,loss10 99,loss11 99,loss12 99";
    private static final Check check = new Check();

    public static void main(String[] args) {
        costsOnItsDays();
        costsByWay();
        costsByTheValueOfTheDay();
        costsByTheReportInForce();
        costsTheMost();
        premiumIsRoundedDownOnce();
        premiumOfItsDays();
        premiumOfTheMost();
        dearestIsTheFirst();
        reportInForce();
        reportsWritten();
        harmsWrittenInOrder();
        damageWithoutOneAhead();
        damageOfWhatHasGrown();
        damageBySorts();
        damageByTheValueOfItsDay();
        damageOfTheMost();
        bearerHasADayBetween();
        bearerWithTheMostDays();
        bearerOfTheLeastFirstDay();
        bearersThatStand();
        chargeIsRoundedDownOnce();
        homeIsRoundedDownOnce();
        homeAndChargesTakeTurns();
        sumsAboveAnInt();
        check.close();
    }

    /** A HOUSE of this way, RATE 1, no COURIER wanted; THINGS of these VALUES, all of one WEIGHT. */
    private static Book book(int way, int... values) {
        Book book = new Book();
        Check.house(book, way + " 999 9999 1");
        for (int value : values) {
            Check.thing(book, "jar " + value + " 9");
        }
        return book;
    }

    // ---- 5 INSURANCE ----

    private static void costsOnItsDays() {
        check.about("'0 if this is none of its DAYS'");
        Book book = book(1, 7, 100);
        Check.loan(book, 0, "10+1:0");
        int[] days = {0, 9, 10, 11, 12, 13, 999};
        int[] costs = {0, 0, 210, 70, 210, 0, 0};
        for (int i = 0; i < days.length; i++) {
            check.answered(book, "cost(0, " + days[i] + ")", book.cost(0, days[i]), costs[i]);
        }
        Check.loan(book, 0, "10+1:1");
        check.answered(book, "of its THINGS alone", book.cost(0, 10), 210);
        check.answered(book, "of its THINGS alone", book.cost(1, 10), 3000);
    }

    private static void costsByWay() {
        check.about("'w is 1 on the STAY; on a way it is 2, if a COURIER goes with the THING's PARCEL on this way, else 3'");
        // OUT 0 and 1, STAY 2, BACK 3 and 4; THING 0 is dear OUT alone, 1 BACK alone, 2 both ways, 3 never
        Book book = new Book();
        Check.house(book, "2 9 1000 1");
        for (int i = 0; i < 4; i++) {
            Check.thing(book, "jar " + new int[] {1001, 1000, 1001, 1000}[i] + " 9");
            Check.courier(book, "0-999");
        }
        book.appraise(0, 3, 1000);
        book.appraise(1, 3, 1001);
        check.taken(book, "loan", Check.loan(book, 0, "0+1:0,1,2,3"), 0);
        int out = 10 * (2 * 1001 + 3 * 1000 + 2 * 1001 + 3 * 1000);
        int[] costs = {out, out, 10 * (1001 + 1000 + 1001 + 1000), out, out};
        for (int day = 0; day < costs.length; day++) {
            check.answered(book, "cost(0, " + day + ")", book.cost(0, day), costs[day]);
        }
        // one PARCEL of two THINGS, and a COURIER on the way OUT alone
        Book one = new Book();
        Check.house(one, "1 9 99 99");
        Check.thing(one, "jar 50 5");
        Check.thing(one, "jar 50 4");
        Check.courier(one, "0-0");
        one.appraise(1, 2, 49);
        check.taken(one, "loan", Check.loan(one, 0, "0+1:0,1"), 0);
        check.answered(one, "cost(0, 0)", one.cost(0, 0), 100 * 99 * 2 * 10);
        check.answered(one, "cost(0, 1)", one.cost(0, 1), 100 * 99 * 10);
        check.answered(one, "cost(0, 2)", one.cost(0, 2), 99 * 99 * 3 * 10);
    }

    private static void costsByTheValueOfTheDay() {
        check.about("'VALUE is that of the THING on the DAY, RATE that of the HOUSE'");
        Book book = book(1, 5);
        Check.house(book, "1 999 9999 99");
        Check.loan(book, 0, "10+3:0");
        Check.loan(book, 1, "20+3:0");
        book.appraise(0, 12, 6);
        int[] costs = {150, 50, 60, 60, 180};
        for (int i = 0; i < costs.length; i++) {
            check.answered(book, "cost(0, " + (10 + i) + ")", book.cost(0, 10 + i), costs[i]);
        }
        book.appraise(0, 11, 9999);
        check.answered(book, "told later, it counts", book.cost(0, 11), 99990);
        check.answered(book, "the day ahead", book.cost(0, 10), 150);
        check.answered(book, "another RATE", book.cost(1, 20), 6 * 99 * 3 * 10);
    }

    private static void costsByTheReportInForce() {
        check.about("'f is how many HARMS the REPORT has that is IN FORCE', '0 if there is none'");
        Book book = book(1, 1);
        Check.loan(book, 0, "10+5:0");
        Check.report(book, 0, 12, "tear 1 1, tear 2 99");
        Check.report(book, 0, 14, "sound");
        Check.report(book, 0, 9, "loss 1 1");
        Check.report(book, 0, 17, "loss 1 1, loss 2 2");
        int[] costs = {33, 11, 12, 12, 10, 10, 30};
        for (int i = 0; i < costs.length; i++) {
            check.answered(book, "cost(0, " + (10 + i) + ")", book.cost(0, 10 + i), costs[i]);
        }
        Check.report(book, 0, 10, "sound");
        check.answered(book, "told later, it counts", book.cost(0, 10), 30);
        check.answered(book, "and up to the next one", book.cost(0, 11), 10);
        check.answered(book, "which is IN FORCE", book.cost(0, 12), 12);
    }

    private static void costsTheMost() {
        check.about("the most that a LOAN can COST on a DAY");
        Book book = dearest();
        check.answered(book, "cost(0, 0)", book.cost(0, 0), 9999 * 99 * 3 * 25 * 16);
        check.answered(book, "cost(0, 30)", book.cost(0, 30), 9999 * 99 * 25 * 16);
        check.answered(book, "cost(0, 359)", book.cost(0, 359), 9999 * 99 * 3 * 25 * 16);
        check.answered(book, "dearest(0)", book.dearest(0), 0);
    }

    /** Sixteen THINGS of 9999 with fifteen HARMS each, lent for 360 DAYS at a RATE of 99, without COURIERS. */
    private static Book dearest() {
        Book book = new Book();
        Check.house(book, "30 999 9999 99");
        StringBuilder text = new StringBuilder("0+300:");
        for (int i = 0; i < 16; i++) {
            Check.thing(book, "jar 9999 999");
            Check.report(book, i, 0, MOST_HARMS);
            text.append(i > 0 ? "," : "").append(i);
        }
        check.taken(book, "loan", Check.loan(book, 0, text.toString()), 0);
        return book;
    }

    private static void premiumIsRoundedDownOnce() {
        check.about("'divided by 10000, rounded down once, at last', of a PREMIUM");
        // on each DAY of its STAY it COSTS 10 times the VALUE
        int[] values = {1, 999, 1000, 1001, 1999, 2000};
        int[] premiums = {0, 0, 1, 1, 1, 2};
        for (int i = 0; i < values.length; i++) {
            Book book = book(1, values[i]);
            Check.loan(book, 0, "0+5:0");
            check.answered(book, "of one DAY and " + values[i], book.premium(0, 1, 1), premiums[i]);
        }
        Book book = book(1, 500);
        Check.loan(book, 0, "0+5:0");
        check.answered(book, "of 5000", book.premium(0, 1, 1), 0);
        check.answered(book, "of 5000 twice", book.premium(0, 1, 2), 1);
        check.answered(book, "of 5000 three times", book.premium(0, 1, 3), 1);
        check.answered(book, "of 15000 and 5000", book.premium(0, 0, 1), 2);
        check.answered(book, "of 15000 twice and 25000", book.premium(0, 0, 6), 5);
        // of two THINGS neither of which alone comes to 1; and of 9999 and 1
        Book two = book(1, 333, 667);
        Check.loan(two, 0, "0+5:0,1");
        check.answered(two, "of two THINGS", two.premium(0, 1, 1), 1);
        two.appraise(1, 2, 666);
        check.answered(two, "of two THINGS, less", two.premium(0, 2, 2), 0);
        check.answered(two, "of 10000 and 9990", two.premium(0, 1, 2), 1);
        Book edge = book(1, 909, 1);
        Check.report(edge, 0, 0, "tear 1 1");
        Check.loan(edge, 0, "0+5:0");
        check.answered(edge, "of 9999", edge.premium(0, 1, 1), 0);
    }

    private static void premiumOfItsDays() {
        check.about("'on all of its DAYS from a to b, these too'");
        Book book = book(1, 1000);
        Check.loan(book, 0, "10+3:0");
        // 10: 3, 11 to 13: 1 each, 14: 3
        int[][] asked = {{0, 9, 0}, {0, 10, 3}, {10, 10, 3}, {9, 10, 3}, {10, 11, 4}, {11, 11, 1}, {11, 13, 3}, {12, 14, 5},
            {14, 14, 3}, {14, 15, 3}, {14, 999, 3}, {15, 15, 0}, {15, 999, 0}, {10, 14, 9}, {0, 999, 9}, {9, 15, 9}};
        for (int[] one : asked) {
            String call = "premium(0, " + one[0] + ", " + one[1] + ")";
            check.answered(book, call, book.premium(0, one[0], one[1]), one[2]);
        }
        Book edges = book(1, 1000);
        Check.loan(edges, 0, "0+1:0");
        Check.loan(edges, 0, "997+1:0");
        check.answered(edges, "premium(0, 0, 0)", edges.premium(0, 0, 0), 3);
        check.answered(edges, "premium(1, 999, 999)", edges.premium(1, 999, 999), 3);
        check.answered(edges, "premium(1, 0, 999)", edges.premium(1, 0, 999), 7);
    }

    private static void premiumOfTheMost() {
        check.about("the most that a PREMIUM can come to");
        Book book = dearest();
        long day = 9999L * 99 * 25 * 16;
        check.answered(book, "premium(0, 0, 999)", book.premium(0, 0, 999), (int) (day * (300 + 60 * 3) / 10000));
        check.answered(book, "premium(0, 0, 1)", book.premium(0, 0, 1), (int) (day * 6 / 10000));
        check.answered(book, "premium(0, 0, 0)", book.premium(0, 0, 0), (int) (day * 3 / 10000));
    }

    private static void dearestIsTheFirst() {
        check.about("'The first of the DAYS of a LOAN on which it COSTS most'");
        Book book = book(1, 100);
        Check.loan(book, 0, "10+3:0");
        check.answered(book, "OUT and BACK are as dear", book.dearest(0), 10);
        book.appraise(0, 14, 101);
        check.answered(book, "BACK is dearer", book.dearest(0), 14);
        book.appraise(0, 12, 303);
        book.appraise(0, 13, 303);
        check.answered(book, "as dear on the STAY", book.dearest(0), 12);
        book.appraise(0, 12, 302);
        check.answered(book, "less than as dear", book.dearest(0), 13);
        book.appraise(0, 15, 9999);
        book.appraise(0, 9, 9999);
        book.appraise(0, 10, 100);
        check.answered(book, "DAYS that are not its own", book.dearest(0), 13);
        Book edges = book(1, 1);
        Check.loan(edges, 0, "0+1:0");
        check.answered(edges, "the least that it can COST, day 0", edges.dearest(0), 0);
        edges.appraise(0, 2, 2);
        check.answered(edges, "its last DAY", edges.dearest(0), 2);
        Check.loan(edges, 0, "997+1:0");
        edges.appraise(0, 999, 3);
        check.answered(edges, "day 999", edges.dearest(1), 999);
    }

    // ---- 6 REPORTS ----

    private static void reportInForce() {
        check.about("'of the REPORTS of the THING that of the latest DAY that is not behind this one'");
        Book book = book(1, 7, 7);
        check.answered(book, "harms(0, 999) of no REPORT", book.harms(0, 999), 0);
        check.refused(book, "note(0, 999, 0) of no REPORT", book.note(0, 999, 0), 1);
        Check.report(book, 0, 500, "tear 1 1");
        Check.report(book, 0, 501, "loss 1 1, loss 2 1");
        Check.report(book, 0, 499, "stain 1 1, stain 2 1, stain 3 1");
        int[] days = {498, 499, 500, 501, 502, 999};
        int[] harms = {0, 3, 1, 2, 2, 2};
        char[] notes = {' ', 's', 't', 'l', 'l', 'l'};
        for (int i = 0; i < days.length; i++) {
            check.answered(book, "harms(0, " + days[i] + ")", book.harms(0, days[i]), harms[i]);
            if (i == 0) {
                check.refused(book, "note(0, 498, 0)", book.note(0, 498, 0), 1);
            } else {
                check.answered(book, "note(0, " + days[i] + ", 0)", book.note(0, days[i], 0), notes[i]);
            }
            check.answered(book, "harms(1, " + days[i] + ")", book.harms(1, days[i]), 0);
            check.refused(book, "note(1, " + days[i] + ", 0)", book.note(1, days[i], 0), 1);
        }
        Check.report(book, 1, 0, "sound");
        check.answered(book, "a sound one is one", book.note(1, 0, 0), 's');
        check.answered(book, "without HARMS", book.harms(1, 0), 0);
    }

    private static void noted(String text, String want) {
        Book book = book(1, 7);
        check.taken(book, "report() of '" + text + "'", Check.report(book, 0, 5, text), 1);
        StringBuilder got = new StringBuilder();
        for (int k = 0; k < want.length(); k++) {
            got.append((char) Math.max(book.note(0, 999, k), 0));
        }
        check.due("'" + got + "' is written '" + want + "'", got.toString().equals(want) ? 1 : 0, 1);
        check.refused(book, "note behind " + want, book.note(0, 999, want.length()), 1);
    }

    private static void reportsWritten() {
        check.about("'It is WRITTEN as sound, if it has no HARM; else as its HARMS, with , and a BLANK between each two'");
        noted("sound", "sound");
        noted("  sound  ", "sound");
        noted("tear0 1", "tear 0 1");
        noted(" stain  0099  0099 ", "stain 99 99");
        noted("crack 5 6,loss 7 8", "crack 5 6, loss 7 8");
        noted(MOST_HARMS, MOST_HARMS.replace(",", ", ").replace("tear", "tear ").replace("loss", "loss "));
        noted(WORST_HARMS, WORST_HARMS.replace(",", ", ").replace("loss", "loss "));
    }

    private static void harmsWrittenInOrder() {
        check.about("'in the order in which SORTS are told above, those of one SORT rising by SPOTS'");
        noted("loss 0 1, crack 0 2, stain 0 3, tear 0 4", "tear 0 4, stain 0 3, crack 0 2, loss 0 1");
        noted("tear 99 1, stain 0 1", "tear 99 1, stain 0 1");
        noted("stain 0 1, tear 99 1", "tear 99 1, stain 0 1");
        noted("loss 9 9, loss 10 1, loss 0 5", "loss 0 5, loss 9 9, loss 10 1");
        noted("crack 99 1, crack 0 99", "crack 0 99, crack 99 1");
        noted("tear 2 9, tear 1 9, loss 1 1, tear 3 9, loss 0 1", "tear 1 9, tear 2 9, tear 3 9, loss 0 1, loss 1 1");
    }

    private static void damageWithoutOneAhead() {
        check.about("'of the REPORTS of the same THING of lesser DAYS, that of the greatest', 'is 0 if none is AHEAD'");
        Book book = book(1, 1, 1);
        Check.report(book, 0, 5, "tear 1 9");
        Check.report(book, 1, 4, "sound");
        check.answered(book, "one of another THING is not AHEAD", book.damage(0, 5), 0);
        Check.report(book, 0, 6, "tear 1 19");
        check.answered(book, "damage(0, 6)", book.damage(0, 6), 30);
        check.answered(book, "a later one is not AHEAD", book.damage(0, 5), 0);
        Check.report(book, 0, 4, "tear 1 8");
        check.answered(book, "one of the day ahead is", book.damage(0, 5), 3);
        Check.report(book, 0, 0, "tear 1 1");
        check.answered(book, "but not one ahead of that", book.damage(0, 5), 3);
        check.answered(book, "damage(0, 4)", book.damage(0, 4), 21);
        check.answered(book, "damage(0, 0)", book.damage(0, 0), 0);
        Check.report(book, 0, 999, "tear 1 20");
        check.answered(book, "however long ago", book.damage(0, 999), 3);
    }

    /** The DAMAGE, at a VALUE of 1, of one REPORT behind another. */
    private static void harmed(String ahead, String own, int damage) {
        Book book = book(1, 1);
        Check.report(book, 0, 5, ahead);
        Check.report(book, 0, 6, own);
        check.answered(book, own + " behind " + ahead, book.damage(0, 6), damage);
    }

    private static void damageOfWhatHasGrown() {
        check.about("'by how much its SIZE is above that of the HARM of the same SORT and SPOT .. if it is not above, 0'");
        harmed("stain 5 9", "stain 5 8", 0);
        harmed("stain 5 9", "stain 5 9", 0);
        harmed("stain 5 9", "stain 5 10", 2);
        harmed("stain 5 99", "stain 5 1", 0);
        harmed("stain 5 1", "stain 5 99", 2 * 98);
        // "(above 0, if this has none)"
        harmed("sound", "stain 5 1", 2);
        harmed("sound", "stain 5 99", 2 * 99);
        harmed("stain 4 9", "stain 5 9", 2 * 9);
        harmed("stain 6 9", "stain 5 9", 2 * 9);
        harmed("crack 5 9", "stain 5 9", 2 * 9);
        harmed("tear 5 9", "stain 5 9", 2 * 9);
        harmed("tear 99 9", "stain 0 9", 2 * 9);
        // what has grown less does not make up for what has grown
        harmed("stain 5 9, stain 6 9", "stain 5 1, stain 6 10", 2);
        harmed("stain 5 9, stain 6 9", "stain 6 10", 2);
        harmed("stain 5 9", "sound", 0);
        harmed("sound", "sound", 0);
        harmed("stain 1 1, stain 5 9, stain 9 9", "stain 9 12, stain 5 11, stain 1 2", 2 * (1 + 2 + 3));
    }

    private static void damageBySorts() {
        check.about("'times 3 of a tear, 2 of a stain, 5 of a crack, 8 of a loss; all of these together'");
        harmed("sound", "tear 0 1", 3);
        harmed("sound", "stain 0 1", 2);
        harmed("sound", "crack 0 1", 5);
        harmed("sound", "loss 0 1", 8);
        harmed("sound", "tear 99 1", 3);
        harmed("sound", "stain 99 1", 2);
        harmed("sound", "crack 99 1", 5);
        harmed("sound", "loss 99 1", 8);
        harmed("sound", "tear 1 1, stain 1 10, crack 1 20, loss 1 30", 3 + 20 + 100 + 240);
        harmed("tear 1 1, stain 1 1, crack 1 1, loss 1 1", "tear 1 2, stain 1 2, crack 1 2, loss 1 2", 18);
    }

    private static void damageByTheValueOfItsDay() {
        check.about("'times the VALUE of the THING on the DAY of the REPORT'");
        Book book = book(1, 100);
        Check.report(book, 0, 5, "sound");
        Check.report(book, 0, 8, "stain 1 1");
        check.answered(book, "its FIRST VALUE", book.damage(0, 8), 200);
        book.appraise(0, 9, 5);
        check.answered(book, "a VALUE of the day behind", book.damage(0, 8), 200);
        book.appraise(0, 5, 7);
        check.answered(book, "of an earlier day", book.damage(0, 8), 14);
        book.appraise(0, 8, 9999);
        check.answered(book, "of its own day", book.damage(0, 8), 2 * 9999);
        book.appraise(0, 8, 1);
        check.answered(book, "the latest time", book.damage(0, 8), 2);
        check.answered(book, "damage(0, 5)", book.damage(0, 5), 0);
    }

    private static void damageOfTheMost() {
        check.about("the most that a DAMAGE can come to");
        Book book = book(1, 9999);
        Check.report(book, 0, 0, "sound");
        Check.report(book, 0, 1, WORST_HARMS);
        check.answered(book, "damage(0, 1)", book.damage(0, 1), 13 * 99 * 8 * 9999);
        check.due("home()", book.home(), 13 * 99 * 8 * 9999 / 1000);
        check.answered(book, "harms(0, 1)", book.harms(0, 1), 13);
    }

    private static void bearerHasADayBetween() {
        check.about("'behind the DAY of the one AHEAD and up to its own (this one too)', 'there is none if'");
        // the LOAN has the DAYS 10 to 14
        int[][] asked = {{5, 9, -1}, {5, 10, 0}, {9, 10, 0}, {10, 11, 0}, {9, 11, 0}, {13, 14, 0}, {14, 15, -1}, {13, 20, 0},
            {14, 20, -1}, {15, 20, -1}, {0, 999, 0}, {12, 13, 0}, {0, 9, -1}, {14, 999, -1}};
        for (int[] one : asked) {
            Book book = book(1, 1000, 7);
            Check.loan(book, 0, "10+3:0");
            Check.report(book, 0, one[0], "sound");
            Check.report(book, 0, one[1], "loss 1 1");
            check.answered(book, one[0] + " to " + one[1], book.bearer(0, one[1]), one[2]);
            check.answered(book, "without one AHEAD", book.bearer(0, one[0]), -1);
            check.answered(book, "charge(0)", book.charge(0), one[2] == 0 ? 8 : 0);
            check.due("home()", book.home(), one[2] == 0 ? 0 : 8);
        }
        Book other = book(1, 1000, 1000);
        Check.loan(other, 0, "10+3:1");
        Check.report(other, 0, 5, "sound");
        Check.report(other, 0, 12, "loss 1 1");
        check.answered(other, "a LOAN of another THING", other.bearer(0, 12), -1);
        Check.report(other, 1, 12, "loss 1 1");
        check.answered(other, "no REPORT AHEAD, and a LOAN", other.bearer(1, 12), -1);
    }

    private static void bearerWithTheMostDays() {
        check.about("'the one with the most DAYS among those'");
        // the first LOAN has 10 to 12, the second 20 to 23, the third 30 to 34, in whatever order they are made
        String[] loans = {"10+1:0", "20+2:0", "30+3:0"};
        int[][] orders = {{0, 1, 2}, {0, 2, 1}, {1, 0, 2}, {1, 2, 0}, {2, 0, 1}, {2, 1, 0}};
        int[][] asked = {{5, 40, 2}, {5, 33, 1}, {5, 34, 2}, {5, 32, 1}, {5, 22, 0}, {5, 23, 1}, {10, 21, 0}, {11, 21, 1},
            {10, 22, 1}, {20, 32, 1}, {21, 32, 2}, {21, 31, 1}, {22, 31, 2}, {12, 19, -1}, {23, 29, -1}, {34, 40, -1},
            {23, 30, 2}, {33, 34, 2}};
        for (int[] one : asked) {
            for (int[] order : orders) {
                Book book = book(1, 1000);
                int want = -1;
                for (int i = 0; i < 3; i++) {
                    Check.loan(book, 0, loans[order[i]]);
                    want = order[i] == one[2] ? i : want;
                }
                Check.report(book, 0, one[0], "sound");
                Check.report(book, 0, one[1], "sound");
                check.answered(book, "from " + one[0] + " to " + one[1], book.bearer(0, one[1]), want);
            }
        }
    }

    private static void bearerOfTheLeastFirstDay() {
        check.about("'of several the one of which the first DAY is the least'");
        int[][] orders = {{10, 20, 30}, {30, 20, 10}, {20, 10, 30}, {20, 30, 10}};
        int[] bearers = {0, 2, 1, 2};
        for (int i = 0; i < orders.length; i++) {
            Book book = book(1, 1000);
            for (int s : orders[i]) {
                Check.loan(book, 0, s + "+1:0");
            }
            Check.report(book, 0, 5, "sound");
            Check.report(book, 0, 40, "sound");
            check.answered(book, "the least of three", book.bearer(0, 40), bearers[i]);
        }
        // one DAY of each: the last of the first LOAN, the first of the second
        Book one = book(1, 1000);
        Check.loan(one, 0, "20+1:0");
        Check.loan(one, 0, "10+1:0");
        Check.report(one, 0, 11, "sound");
        Check.report(one, 0, 20, "sound");
        check.answered(one, "one DAY of each", one.bearer(0, 20), 1);
        Check.report(one, 0, 12, "sound");
        check.answered(one, "one DAY of the second alone", one.bearer(0, 20), 0);
        check.answered(one, "one DAY of the first alone", one.bearer(0, 12), 1);
        // a LOAN from day 0 on
        Book zero = book(1, 1000);
        Check.loan(zero, 0, "1+1:0");
        Check.report(zero, 0, 0, "sound");
        Check.report(zero, 0, 1, "sound");
        check.answered(zero, "day 1", zero.bearer(0, 1), 0);
        check.answered(zero, "day 0", zero.bearer(0, 0), -1);
    }

    private static void bearersThatStand() {
        check.about("'of the LOANS that STAND and have the THING'");
        Book book = book(1, 1000);
        Check.loan(book, 0, "10+3:0");
        Check.report(book, 0, 5, "sound");
        Check.report(book, 0, 20, "loss 1 1");
        check.answered(book, "bearer(0, 20)", book.bearer(0, 20), 0);
        check.answered(book, "charge(0)", book.charge(0), 8);
        check.due("home()", book.home(), 0);
        book.cancel(0);
        check.answered(book, "bearer(0, 20) when it STANDS no more", book.bearer(0, 20), -1);
        check.refused(book, "charge(0)", book.charge(0), 1);
        check.due("home()", book.home(), 8);
        check.taken(book, "another LOAN, made behind the REPORTS", Check.loan(book, 0, "18+1:0"), 1);
        check.answered(book, "bearer(0, 20)", book.bearer(0, 20), 1);
        check.answered(book, "charge(1)", book.charge(1), 8);
        check.due("home()", book.home(), 0);
    }

    private static void chargeIsRoundedDownOnce() {
        check.about("'together, divided by 1000, rounded down once, at last', of a CHARGE");
        // each stain of 1 is a DAMAGE of twice the VALUE
        int[] values = {1, 499, 500, 501, 999, 1000};
        int[] charges = {0, 0, 1, 1, 1, 2};
        for (int i = 0; i < values.length; i++) {
            Book book = lentAndStained(values[i]);
            check.answered(book, "charge of " + 2 * values[i], book.charge(0), charges[i]);
            check.due("home()", book.home(), 0);
        }
        // 333 of a tear each: 999 of one, 1998 of two, 2997 of three, and a stain of 1 at a VALUE of 2 more
        Book book = book(1, 333, 2);
        Check.loan(book, 0, "10+9:0,1");
        Check.report(book, 0, 5, "sound");
        Check.report(book, 0, 12, "tear 1 1");
        check.answered(book, "charge of 999", book.charge(0), 0);
        Check.report(book, 0, 13, "tear 1 2");
        check.answered(book, "charge of 999 twice", book.charge(0), 1);
        Check.report(book, 0, 14, "tear 1 3");
        check.answered(book, "charge of 999 three times", book.charge(0), 2);
        Check.report(book, 1, 5, "sound");
        Check.report(book, 1, 12, "stain 1 1");
        check.answered(book, "charge of 3001", book.charge(0), 3);
        book.appraise(1, 12, 1);
        check.answered(book, "charge of 2999", book.charge(0), 2);
    }

    private static Book lentAndStained(int value) {
        Book book = book(1, value);
        Check.loan(book, 0, "10+3:0");
        Check.report(book, 0, 5, "sound");
        Check.report(book, 0, 20, "stain 1 1");
        return book;
    }

    private static void homeIsRoundedDownOnce() {
        check.about("'The DAMAGES of all REPORTS that have no BEARER, together, divided by 1000, rounded down once'");
        Book none = new Book();
        check.due("home() without THINGS", none.home(), 0);
        int[] values = {1, 499, 500, 501, 999, 1000};
        int[] homes = {0, 0, 1, 1, 1, 2};
        for (int i = 0; i < values.length; i++) {
            Book book = lentAndStained(values[i]);
            book.cancel(0);
            check.due("home() of " + 2 * values[i], book.home(), homes[i]);
        }
        // 998 of one THING and 2 of another one
        Book two = book(1, 499, 1);
        for (int thing = 0; thing < 2; thing++) {
            Check.report(two, thing, 5, "sound");
            check.due("home() of 0 or 998", two.home(), 0);
            Check.report(two, thing, 6, "stain 1 1");
        }
        check.due("home() of 1000", two.home(), 1);
        two.appraise(0, 6, 498);
        check.due("home() of 998", two.home(), 0);
    }

    private static void homeAndChargesTakeTurns() {
        check.about("each DAMAGE is borne once: by its BEARER, or at home");
        Book book = book(1, 1000);
        Check.loan(book, 0, "10+1:0");
        Check.loan(book, 0, "20+1:0");
        Check.report(book, 0, 5, "loss 1 1");
        Check.report(book, 0, 9, "loss 1 2");
        Check.report(book, 0, 15, "loss 1 4");
        Check.report(book, 0, 25, "loss 1 8");
        Check.report(book, 0, 30, "loss 1 16");
        check.answered(book, "charge(0)", book.charge(0), 8 * 2);
        check.answered(book, "charge(1)", book.charge(1), 8 * 4);
        check.due("home()", book.home(), 8 * (1 + 8));
        book.cancel(0);
        check.answered(book, "charge(1)", book.charge(1), 8 * 4);
        check.due("home()", book.home(), 8 * (1 + 2 + 8));
        book.cancel(1);
        check.due("home()", book.home(), 8 * 15);
    }

    private static void sumsAboveAnInt() {
        check.about("DAMAGES that come to more than an int together");
        Book book = book(1, 9999);
        for (int i = 0; i < 24; i++) {
            Check.report(book, 0, 2 * i, "sound");
            Check.report(book, 0, 2 * i + 1, WORST_HARMS);
        }
        int all = (int) (24L * 13 * 99 * 8 * 9999 / 1000);
        check.answered(book, "count(5)", book.count(5), 48);
        check.due("home()", book.home(), all);
        Check.loan(book, 0, "0+48:0");
        check.answered(book, "charge(0)", book.charge(0), all);
        check.due("home()", book.home(), 0);
    }
}
