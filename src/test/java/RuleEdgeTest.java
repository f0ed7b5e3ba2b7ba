/** Terms 2 to 6: for each sentence that draws a bound between what counts and what does not a test on both sides of it. */
public final class RuleEdgeTest {
    private static final Check check = new Check();

    public static void main(String[] args) {
        valueOfTheLatestDay();
        valueOfTheLatestTime();
        valueIfNoneIsTold();
        goingTogether();
        thingsWritten();
        housesAndCouriersWritten();
        mayTravelOnTheDaysOfItsSpans();
        daysOfALoan();
        standsUntilCancel();
        freeRows();
        heaviestFirst();
        firstParcelThatTakesIt();
        parcelsUpToTheLimit();
        wantsACourierAboveTheGuard();
        wantsACourierOnTheFirstDay();
        dearestParcelFirst();
        waysOutFirst();
        leastBusyCourier();
        busyOnTheDaysOfTheWay();
        staysAsItIs();
        check.close();
    }

    private static void valuesAre(Book book, int thing, int[] days, int[] values) {
        for (int i = 0; i < days.length; i++) {
            check.answered(book, "value(" + thing + ", " + days[i] + ")", book.value(thing, days[i]), values[i]);
        }
    }

    // ---- 2 THINGS ----

    private static void valueOfTheLatestDay() {
        check.about("'what appraise() told for the latest DAY that is not behind it'");
        Book book = new Book();
        Check.thing(book, "jar 7 7");
        Check.thing(book, "jar 9 7");
        check.answered(book, "day 500", book.appraise(0, 500, 50), 7);
        valuesAre(book, 0, new int[] {0, 499, 500, 501, 999}, new int[] {7, 7, 50, 50, 50});
        check.answered(book, "day 499", book.appraise(0, 499, 49), 7);
        check.answered(book, "day 501", book.appraise(0, 501, 51), 50);
        check.answered(book, "day 100, later told", book.appraise(0, 100, 10), 7);
        int[] days = {0, 99, 100, 498, 499, 500, 501, 502, 999};
        valuesAre(book, 0, days, new int[] {7, 7, 10, 10, 49, 50, 51, 51, 51});
        valuesAre(book, 1, days, new int[] {9, 9, 9, 9, 9, 9, 9, 9, 9});
    }

    private static void valueOfTheLatestTime() {
        check.about("'where it told more than once for one DAY, the latest time'");
        Book book = new Book();
        Check.thing(book, "jar 7 7");
        book.appraise(0, 10, 1);
        book.appraise(0, 20, 2);
        check.answered(book, "day 10 again", book.appraise(0, 10, 3), 1);
        check.answered(book, "day 10 once more", book.appraise(0, 10, 4), 3);
        check.answered(book, "day 20 again", book.appraise(0, 20, 9999), 2);
        check.answered(book, "the same value", book.appraise(0, 20, 9999), 9999);
        valuesAre(book, 0, new int[] {9, 10, 19, 20}, new int[] {7, 4, 4, 9999});
    }

    private static void valueIfNoneIsTold() {
        check.about("'its FIRST VALUE, if it told for no such DAY'");
        Book book = new Book();
        Check.thing(book, "jar 1 7");
        Check.thing(book, "jar 9999 7");
        valuesAre(book, 0, new int[] {0, 999}, new int[] {1, 1});
        valuesAre(book, 1, new int[] {0, 999}, new int[] {9999, 9999});
        book.appraise(0, 999, 5);
        book.appraise(1, 0, 5);
        valuesAre(book, 0, new int[] {0, 998, 999}, new int[] {1, 1, 5});
        valuesAre(book, 1, new int[] {0, 999}, new int[] {5, 5});
    }

    private static void goingTogether() {
        check.about("'go TOGETHER if neither BARS the KIND of the other one', 'perhaps one and the same'");
        String[] kinds = {"sheet", "jar", "skin", "cast", "book"};
        for (String one : kinds) {
            for (String barred : kinds) {
                Book book = new Book();
                Check.thing(book, one + " 7 7 not " + barred);
                check.answered(book, "with itself", book.together(0, 0), one.equals(barred) ? 0 : 1);
                for (int i = 0; i < 5; i++) {
                    Check.thing(book, kinds[i] + " 7 7");
                    int want = kinds[i].equals(barred) ? 0 : 1;
                    check.answered(book, "it and another", book.together(0, i + 1), want);
                    check.answered(book, "another and it", book.together(i + 1, 0), want);
                    check.answered(book, "others", book.together(i + 1, 1), 1);
                }
            }
        }
    }

    private static void written(Book book, int what, String want) {
        int number = book.count(what) - 1;
        StringBuilder got = new StringBuilder();
        for (int k = 0; k < want.length(); k++) {
            got.append((char) Math.max(book.letter(what, number, k), 0));
        }
        check.due("'" + got + "' is written '" + want + "'", got.toString().equals(want) ? 1 : 0, 1);
        check.refused(book, "the byte behind " + want, book.letter(what, number, want.length()), 1);
    }

    private static void thingsWritten() {
        check.about("'A THING is WRITTEN as its KIND, its FIRST VALUE, its WEIGHT, then not and the KIND for each'");
        String[][] texts = {{"jar 1 1", "jar 1 1"}, {"  book  0012  0999 ", "book 12 999"}, {"sheet9999 1", "sheet 9999 1"},
            {"skin 5 5 not skin", "skin 5 5 not skin"}, {"cast 5 5 not book not sheet", "cast 5 5 not sheet not book"},
            {"jar 5 5not book not cast not skin not jar not sheet", "jar 5 5 not sheet not jar not skin not cast not book"},
            {"jar 5 5 not skin not jar", "jar 5 5 not jar not skin"}, {"jar 5 5 not book not cast", "jar 5 5 not cast not book"}};
        for (String[] text : texts) {
            Book book = new Book();
            Check.thing(book, text[0]);
            written(book, 0, text[1]);
        }
        Book book = new Book();
        Check.thing(book, "jar 5 5");
        book.appraise(0, 0, 9);
        written(book, 0, "jar 5 5");
    }

    // ---- 3 HOUSES, COURIERS ----

    private static void housesAndCouriersWritten() {
        check.about("'A HOUSE is WRITTEN as its numbers', 'a COURIER as its SPANS'");
        Book book = new Book();
        Check.house(book, "0001 0001 0000 0001");
        written(book, 1, "1 1 0 1");
        Check.house(book, "30 9999 9999 99");
        written(book, 1, "30 9999 9999 99");
        Check.courier(book, "0-0");
        written(book, 2, "0-0");
        Check.courier(book, " 0000 - 0999 ");
        written(book, 2, "0-999");
        Check.courier(book, "0-1,2 - 10,0011-999");
        written(book, 2, "0-1, 2-10, 11-999");
    }

    private static void mayTravelOnTheDaysOfItsSpans() {
        check.about("'of s - t all from s to t, these too'");
        Book book = new Book();
        Check.courier(book, "10-12, 14-14, 16-17, 18-20, 999-999");
        int[][] asked = {{0, 1, 10}, {9, 1, 10}, {10, 1, 10}, {12, 1, 12}, {13, 1, 14}, {15, 1, 16}, {21, 1, 999}, {999, 1, 999},
            {0, 3, 10}, {10, 3, 10}, {11, 3, 16}, {0, 4, 16}, {16, 5, 16}, {17, 5, -1}, {0, 5, 16}, {0, 6, -1}, {18, 3, 18},
            {19, 3, -1}, {999, 2, -1}};
        for (int[] one : asked) {
            String call = "ready(0, " + one[0] + ", " + one[1] + ")";
            check.answered(book, call, book.ready(0, one[0], one[1]), one[2]);
        }
    }

    // ---- 4 LOANS ----

    /** Where the stages of the LOAN begin: its way OUT, its STAY, its way BACK, and the DAYS behind it. */
    private static void stagesFrom(Book book, int loan, int out, int stay, int back, int behind) {
        int[] days = {out - 1, out, stay - 1, stay, back - 1, back, behind - 1, behind};
        int[] stages = {0, 1, 1, 2, 2, 3, 3, 0};
        for (int i = 0; i < days.length; i++) {
            if (days[i] >= 0 && days[i] <= 999) {
                check.answered(book, "stage(" + loan + ", " + days[i] + ")", book.stage(loan, days[i]), stages[i]);
                boolean isOf = stages[i] != 0;
                check.answered(book, "where of " + days[i], book.where(0, days[i]), isOf ? loan : -1);
                check.answered(book, "cost of " + days[i], book.cost(loan, days[i]), isOf ? stages[i] == 2 ? 10 : 30 : 0);
            }
        }
    }

    private static void daysOfALoan() {
        check.about("'the DAYS from s to s + 2 * d + t - 1', 'the first d', 'the last d', 'the t between'");
        int[][] loans = {{1, 0, 1}, {1, 997, 1}, {1, 0, 300}, {1, 698, 300}, {30, 0, 1}, {30, 939, 1}, {30, 0, 300},
            {30, 640, 300}, {2, 5, 3}};
        for (int[] one : loans) {
            Book book = new Book();
            Check.thing(book, "jar 1 1");
            Check.house(book, one[0] + " 1 1 1");
            check.taken(book, "loan", Check.loan(book, 0, one[1] + "+" + one[2] + ":0"), 0);
            int stay = one[1] + one[0];
            stagesFrom(book, 0, one[1], stay, stay + one[2], stay + one[2] + one[0]);
        }
    }

    private static void standsUntilCancel() {
        check.about("'It STANDS from its making until cancel()', 'how many do'");
        Book book = new Book();
        Check.thing(book, "jar 1 1");
        Check.house(book, "1 1 1 1");
        check.answered(book, "none", book.count(4), 0);
        for (int i = 0; i < 3; i++) {
            Check.loan(book, 0, 10 * i + "+1:0");
            check.answered(book, "count(4)", book.count(4), i + 1);
        }
        check.answered(book, "where(0, 10)", book.where(0, 10), 1);
        check.answered(book, "cancel(1)", book.cancel(1), 2);
        check.answered(book, "where(0, 10)", book.where(0, 10), -1);
        check.answered(book, "where(0, 2)", book.where(0, 2), 0);
        check.answered(book, "where(0, 20)", book.where(0, 20), 2);
        check.answered(book, "count(3)", book.count(3), 3);
        check.answered(book, "count(4)", book.count(4), 2);
        check.refused(book, "cancel(1) again", book.cancel(1), 1);
        check.answered(book, "count(4)", book.count(4), 2);
        // in its place another one, of a number of its own
        check.taken(book, "the same again", Check.loan(book, 0, "10+1:0"), 3);
        check.refused(book, "stage(1, 10)", book.stage(1, 10), 1);
        check.answered(book, "where(0, 10)", book.where(0, 10), 3);
        check.answered(book, "cancel(2)", book.cancel(2), 2);
        check.answered(book, "cancel(0)", book.cancel(0), 1);
        check.answered(book, "cancel(3)", book.cancel(3), 0);
    }

    private static void freeRows() {
        check.about("free(): 'The first number from day on such that', '-1: there is none'");
        Book book = new Book();
        Check.thing(book, "jar 1 1");
        Check.house(book, "1 1 1 1");
        Check.loan(book, 0, "10+3:0");
        Check.loan(book, 0, "20+3:0");
        // taken are the DAYS 10 to 14 and 20 to 24
        int[][] asked = {{0, 10, 0}, {0, 11, 25}, {1, 9, 1}, {1, 10, 25}, {9, 1, 9}, {10, 1, 15}, {14, 1, 15}, {15, 1, 15},
            {10, 5, 15}, {14, 5, 15}, {15, 5, 15}, {16, 5, 25}, {10, 6, 25}, {19, 1, 19}, {20, 1, 25}, {24, 1, 25},
            {25, 975, 25}, {0, 975, 25}, {0, 976, -1}, {26, 975, -1}, {26, 974, 26}, {999, 1, 999}, {999, 2, -1}, {0, 1000, -1}};
        for (int[] one : asked) {
            String call = "free(0, " + one[0] + ", " + one[1] + ")";
            check.answered(book, call, book.free(0, one[0], one[1]), one[2]);
        }
        Check.loan(book, 0, "997+1:0");
        check.answered(book, "free(0, 25, 972)", book.free(0, 25, 972), 25);
        check.answered(book, "free(0, 25, 973)", book.free(0, 25, 973), -1);
        check.answered(book, "free(0, 996, 1)", book.free(0, 996, 1), 996);
        check.answered(book, "free(0, 997, 1)", book.free(0, 997, 1), -1);
        check.answered(book, "free(0, 999, 1)", book.free(0, 999, 1), -1);
    }

    /** THINGS of these texts go to a HOUSE of this LIMIT; into which PARCELS, and what these weigh. */
    private static void packs(int limit, String[] things, int[] parcels, int[] weights) {
        Book book = new Book();
        StringBuilder text = new StringBuilder("0+1:");
        for (int i = 0; i < things.length; i++) {
            Check.thing(book, things[i]);
            text.append(i > 0 ? "," : "").append(i);
        }
        Check.house(book, "1 " + limit + " 9999 1");
        check.taken(book, "loan", Check.loan(book, 0, text.toString()), 0);
        check.answered(book, "parcels(0)", book.parcels(0), weights.length);
        for (int i = 0; i < parcels.length; i++) {
            check.answered(book, "parcel of " + things[i], book.parcel(0, i), parcels[i]);
        }
        for (int i = 0; i < weights.length; i++) {
            check.answered(book, "weight(0, " + i + ")", book.weight(0, i), weights[i]);
        }
        check.refused(book, "weight of no parcel", book.weight(0, weights.length), 1);
    }

    private static String[] jars(int... weights) {
        String[] things = new String[weights.length];
        for (int i = 0; i < weights.length; i++) {
            things[i] = "jar 1 " + weights[i];
        }
        return things;
    }

    private static void heaviestFirst() {
        check.about("'the heaviest first, of several as heavy that of the least number'");
        packs(10, jars(3, 7, 10), new int[] {1, 1, 0}, new int[] {10, 10});
        packs(10, jars(10, 7, 3), new int[] {0, 1, 1}, new int[] {10, 10});
        packs(10, jars(6, 6, 6), new int[] {0, 1, 2}, new int[] {6, 6, 6});
        packs(10, jars(6, 7, 6), new int[] {1, 0, 2}, new int[] {7, 6, 6});
        packs(10, jars(4, 6, 4, 6), new int[] {0, 0, 1, 1}, new int[] {10, 10});
        packs(10, new String[] {"jar 1 5 not skin", "skin 1 5", "jar 1 5 not skin"}, new int[] {0, 1, 0}, new int[] {10, 5});
        packs(999, jars(999), new int[] {0}, new int[] {999});
    }

    private static void firstParcelThatTakesIt() {
        check.about("'into the first PARCEL in which it goes TOGETHER with each THING that is there'");
        packs(99, new String[] {"jar 1 9", "jar 1 8", "skin 1 7 not jar", "book 1 6"}, new int[] {0, 0, 1, 0}, new int[] {23, 7});
        packs(99, new String[] {"jar 1 9 not skin", "skin 1 8", "skin 1 7"}, new int[] {0, 1, 1}, new int[] {9, 15});
        // with the first of a PARCEL it goes, with the second it does not
        packs(99, new String[] {"jar 1 9", "book 1 8 not cast", "cast 1 7"}, new int[] {0, 0, 1}, new int[] {17, 7});
        packs(99, new String[] {"jar 1 9", "book 1 8", "cast 1 7 not book"}, new int[] {0, 0, 1}, new int[] {17, 7});
        packs(99, new String[] {"jar 1 9 not cast", "book 1 8", "cast 1 7"}, new int[] {0, 0, 1}, new int[] {17, 7});
        // it BARS its own KIND: that keeps it from the others, not from being sent
        packs(99, new String[] {"jar 1 9 not jar", "jar 1 8 not jar", "jar 1 7"}, new int[] {0, 1, 2}, new int[] {9, 8, 7});
        packs(99, new String[] {"jar 1 9 not jar", "book 1 8", "jar 1 7"}, new int[] {0, 0, 1}, new int[] {17, 7});
        // neither the first PARCEL nor the second takes it
        packs(10, new String[] {"jar 1 9", "jar 1 8 not book", "book 1 2"}, new int[] {0, 1, 2}, new int[] {9, 8, 2});
        packs(10, new String[] {"jar 1 9", "jar 1 8", "book 1 2"}, new int[] {0, 1, 1}, new int[] {9, 10});
    }

    private static void parcelsUpToTheLimit() {
        check.about("'with which it weighs no more than the LIMIT; if there is none, into a new one behind the others'");
        packs(10, jars(6, 4), new int[] {0, 0}, new int[] {10});
        packs(10, jars(6, 5), new int[] {0, 1}, new int[] {6, 5});
        packs(9, jars(6, 4), new int[] {0, 1}, new int[] {6, 4});
        packs(11, jars(6, 5), new int[] {0, 0}, new int[] {11});
        packs(10, jars(10, 1), new int[] {0, 1}, new int[] {10, 1});
        packs(1, jars(1, 1, 1), new int[] {0, 1, 2}, new int[] {1, 1, 1});
        packs(9999, jars(999, 999, 999, 999, 999, 999, 999, 999, 999, 999), new int[10], new int[] {9990});
        packs(9999, jars(999, 999, 999, 999, 999, 999, 999, 999, 999, 999, 9, 1),
            new int[] {0, 0, 0, 0, 0, 0, 0, 0, 0, 0, 0, 1}, new int[] {9999, 1});
        int[] sixteen = new int[16];
        for (int i = 0; i < 16; i++) {
            sixteen[i] = i;
        }
        packs(7, jars(7, 7, 7, 7, 7, 7, 7, 7, 7, 7, 7, 7, 7, 7, 7, 7), sixteen, new int[] {7, 7, 7, 7, 7, 7, 7, 7, 7, 7, 7, 7, 7,
            7, 7, 7});
    }

    /** A HOUSE two DAYS away, of this GUARD, and as many COURIERS that may always travel. */
    private static Book guarding(int limit, int guard, int couriers, String... things) {
        Book book = new Book();
        Check.house(book, "2 " + limit + " " + guard + " 1");
        for (int i = 0; i < couriers; i++) {
            Check.courier(book, "0-999");
        }
        for (String thing : things) {
            Check.thing(book, thing);
        }
        return book;
    }

    private static void guardsAre(Book book, int loan, int way, int... want) {
        for (int i = 0; i < want.length; i++) {
            check.answered(book, "guard(" + loan + ", " + i + ", " + way + ")", book.guard(loan, i, way), want[i]);
        }
        check.refused(book, "guard of no parcel", book.guard(loan, want.length, way), 1);
    }

    private static void wantsACourierAboveTheGuard() {
        check.about("'if the VALUES of its THINGS on the first DAY of the way come to more than the GUARD together'");
        int[] values = {1, 99, 100, 101, 9999};
        int[] guards = {0, 1, 99, 100, 101, 9999};
        for (int value : values) {
            for (int guard : guards) {
                Book book = guarding(9, guard, 1, "jar " + value + " 9");
                check.taken(book, "loan", Check.loan(book, 0, "0+1:0"), 0);
                int want = value > guard ? 0 : -1;
                guardsAre(book, 0, 0, want);
                guardsAre(book, 0, 1, want);
                check.answered(book, "busy(0)", book.busy(0), value > guard ? 4 : 0);
            }
        }
        // THINGS of one PARCEL count together, those of two do not
        Book one = guarding(10, 100, 1, "jar 50 5", "jar 51 5");
        Check.loan(one, 0, "0+1:0,1");
        guardsAre(one, 0, 0, 0);
        Book even = guarding(10, 101, 1, "jar 50 5", "jar 51 5");
        Check.loan(even, 0, "0+1:0,1");
        guardsAre(even, 0, 0, -1);
        Book two = guarding(9, 100, 1, "jar 50 5", "jar 51 5");
        Check.loan(two, 0, "0+1:0,1");
        guardsAre(two, 0, 0, -1, -1);
    }

    private static void wantsACourierOnTheFirstDay() {
        check.about("'on the first DAY of the way'");
        // OUT 10 and 11, STAY 12 to 14, BACK 15 and 16
        int[] days = {9, 10, 11, 14, 15, 16};
        int[] out = {0, 0, -1, -1, -1, -1};
        int[] back = {-1, -1, -1, -1, 0, -1};
        for (int i = 0; i < days.length; i++) {
            Book book = guarding(9, 100, 1, "jar 100 9");
            book.appraise(0, days[i], 101);
            if (days[i] != 9) {
                book.appraise(0, days[i] + 1, 100);
            } else {
                book.appraise(0, 11, 100);
            }
            check.taken(book, "loan", Check.loan(book, 0, "10+3:0"), 0);
            guardsAre(book, 0, 0, out[i]);
            guardsAre(book, 0, 1, back[i]);
        }
    }

    private static void dearestParcelFirst() {
        check.about("'that for which these VALUES come to the most gets it first, of several that of the least number'");
        // COURIERS that are as little BUSY are given in turn, so that their numbers tell the order
        Book rising = guarding(9, 0, 4, "jar 10 9", "jar 11 9", "jar 12 9");
        Check.loan(rising, 0, "0+1:0,1,2");
        guardsAre(rising, 0, 0, 2, 1, 0);
        Book falling = guarding(9, 0, 4, "jar 12 9", "jar 11 9", "jar 10 9");
        Check.loan(falling, 0, "0+1:0,1,2");
        guardsAre(falling, 0, 0, 0, 1, 2);
        Book even = guarding(9, 0, 4, "jar 10 9", "jar 11 9", "jar 10 9", "jar 11 9");
        Check.loan(even, 0, "0+1:0,1,2,3");
        guardsAre(even, 0, 0, 2, 0, 3, 1);
        Book partly = guarding(9, 10, 4, "jar 10 9", "jar 11 9", "jar 10 9", "jar 12 9");
        Check.loan(partly, 0, "0+1:0,1,2,3");
        guardsAre(partly, 0, 0, -1, 1, -1, 0);
        // the order is that of the VALUES on the first DAY of this way
        Book turned = guarding(9, 0, 2, "jar 10 9", "jar 11 9");
        turned.appraise(0, 3, 12);
        Check.loan(turned, 0, "0+1:0,1");
        guardsAre(turned, 0, 0, 1, 0);
        guardsAre(turned, 0, 1, 0, 1);
    }

    private static void waysOutFirst() {
        check.about("'Those that want one on the way OUT get theirs first, then those that want one on the way BACK'");
        // COURIER 0 travels OUT alone; were a PARCEL's ways given together, the first PARCEL's way BACK would come first
        Book book = guarding(9, 0, 0, "jar 10 9", "jar 10 9");
        Check.courier(book, "0-999");
        Check.courier(book, "0-999");
        Check.courier(book, "3-999");
        Check.loan(book, 0, "0+1:0,1");
        guardsAre(book, 0, 0, 0, 1);
        // COURIER 2 is not BUSY yet; then 0 and 1 are as BUSY
        guardsAre(book, 0, 1, 2, 0);
        // on the way BACK one is wanted that is not on the way OUT
        Book back = guarding(9, 50, 2, "jar 50 9", "jar 51 9");
        back.appraise(0, 3, 52);
        Check.loan(back, 0, "0+1:0,1");
        guardsAre(back, 0, 0, -1, 0);
        guardsAre(back, 0, 1, 1, 0);
    }

    private static void leastBusyCourier() {
        check.about("'the one that is BUSY on the fewest DAYS, of several that of the least number'");
        Book book = guarding(9, 0, 3, "jar 10 9", "jar 10 9");
        Check.house(book, "3 9 0 1");
        check.taken(book, "0 gets the way OUT, 1 the way BACK", Check.loan(book, 0, "0+1:0"), 0);
        guardsAre(book, 0, 0, 0);
        guardsAre(book, 0, 1, 1);
        check.taken(book, "2 gets three DAYS, 0 then three more", Check.loan(book, 1, "10+1:0"), 1);
        guardsAre(book, 1, 0, 2);
        guardsAre(book, 1, 1, 0);
        // BUSY are 0 on 5 DAYS, 1 on 2, 2 on 3
        check.taken(book, "1 gets two DAYS, 2 two more", Check.loan(book, 0, "20+1:0"), 2);
        guardsAre(book, 2, 0, 1);
        guardsAre(book, 2, 1, 2);
        // 5, 4 and 5
        int[] busy = {5, 4, 5};
        for (int i = 0; i < 3; i++) {
            check.answered(book, "busy(" + i + ")", book.busy(i), busy[i]);
        }
        check.taken(book, "1, then 0 of two as BUSY", Check.loan(book, 0, "30+1:0"), 3);
        guardsAre(book, 3, 0, 1);
        guardsAre(book, 3, 1, 0);
        // 7, 6 and 5; without LOAN 2 1 is BUSY on 4 DAYS, 2 on 3
        check.answered(book, "cancel(2)", book.cancel(2), 3);
        check.answered(book, "busy(1)", book.busy(1), 4);
        check.answered(book, "busy(2)", book.busy(2), 3);
        check.taken(book, "2, then 1", Check.loan(book, 1, "40+1:0"), 4);
        guardsAre(book, 4, 0, 2);
        guardsAre(book, 4, 1, 1);
        // the least BUSY one can't: it MAY not TRAVEL, or is BUSY
        Check.courier(book, "51-999");
        check.taken(book, "3 MAY not TRAVEL OUT", Check.loan(book, 0, "50+1:0"), 5);
        guardsAre(book, 5, 0, 2);
        guardsAre(book, 5, 1, 3);
        check.taken(book, "3 is BUSY on the way OUT", Check.loan(book, 0, "53+1:1"), 6);
        guardsAre(book, 6, 0, 0);
        guardsAre(book, 6, 1, 3);
    }

    private static void busyOnTheDaysOfTheWay() {
        check.about("'From then on it is BUSY on the DAYS of the way, until the LOAN STANDS no more'");
        Book book = guarding(9, 0, 1, "jar 10 9", "jar 10 9");
        check.answered(book, "busy(0)", book.busy(0), 0);
        Check.loan(book, 0, "10+3:0");
        int[] days = {9, 10, 11, 12, 14, 15, 16, 17};
        int[] loans = {-1, 0, 0, -1, -1, 0, 0, -1};
        for (int i = 0; i < days.length; i++) {
            check.answered(book, "with(0, " + days[i] + ")", book.with(0, days[i]), loans[i]);
            check.answered(book, "ready from it", book.ready(0, days[i], 1), loans[i] < 0 ? days[i] : days[i] < 12 ? 12 : 17);
        }
        check.answered(book, "busy(0)", book.busy(0), 4);
        check.answered(book, "ready(0, 0, 10)", book.ready(0, 0, 10), 0);
        check.answered(book, "ready(0, 0, 11)", book.ready(0, 0, 11), 17);
        check.answered(book, "ready(0, 10, 3)", book.ready(0, 10, 3), 12);
        check.answered(book, "ready(0, 10, 4)", book.ready(0, 10, 4), 17);
        check.taken(book, "another LOAN between", Check.loan(book, 0, "17+3:1"), 1);
        check.answered(book, "busy(0)", book.busy(0), 8);
        check.answered(book, "cancel(0)", book.cancel(0), 1);
        check.answered(book, "busy(0)", book.busy(0), 4);
        for (int day : new int[] {10, 11, 15, 16}) {
            check.answered(book, "with(0, " + day + ")", book.with(0, day), -1);
        }
        check.answered(book, "with(0, 17)", book.with(0, 17), 1);
        check.answered(book, "ready(0, 0, 17)", book.ready(0, 0, 17), 0);
        check.answered(book, "ready(0, 0, 18)", book.ready(0, 0, 18), 24);
        // of all DAYS on which it MAY TRAVEL it can be BUSY
        Book fewDays = guarding(9, 0, 0, "jar 10 9");
        Check.courier(fewDays, "0-1, 3-4");
        Check.loan(fewDays, 0, "0+1:0");
        check.answered(fewDays, "busy(0)", fewDays.busy(0), 4);
        check.answered(fewDays, "ready(0, 0, 1)", fewDays.ready(0, 0, 1), -1);
        fewDays.cancel(0);
        check.answered(fewDays, "ready(0, 0, 2)", fewDays.ready(0, 0, 2), 0);
        check.answered(fewDays, "ready(0, 0, 3): no more than before", fewDays.ready(0, 0, 3), -1);
    }

    private static void staysAsItIs() {
        check.about("'PARCELS and who goes with them stay as they are when the LOAN is made, whatever is told later'");
        Book book = guarding(9, 50, 2, "jar 50 9", "jar 51 9");
        Check.loan(book, 0, "0+1:0,1");
        book.appraise(0, 0, 9999);
        book.appraise(1, 0, 1);
        Check.courier(book, "0-999");
        Check.report(book, 0, 0, "tear 1 1");
        guardsAre(book, 0, 0, -1, 0);
        guardsAre(book, 0, 1, -1, 1);
        Check.loan(book, 0, "20+1:0,1");
        guardsAre(book, 1, 0, 2, -1);
        book.cancel(1);
        guardsAre(book, 0, 0, -1, 0);
        guardsAre(book, 0, 1, -1, 1);
        check.answered(book, "parcels(0)", book.parcels(0), 2);
        check.answered(book, "busy(0)", book.busy(0), 2);
        check.answered(book, "busy(2)", book.busy(2), 0);
    }
}
