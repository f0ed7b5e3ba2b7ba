import java.nio.charset.StandardCharsets;
import java.util.List;
import java.util.TreeMap;

/** Long runs of made-up calls, each answered by the class and by the Model alike. The runs are always the same. */
public final class ModelTest {
    private static final int RUNS = 9000;
    // the calls that one step may make, with what is asked behind each
    private static final int STEP = 40;
    private static final int REPORTS = 6;
    private static final String[] WORDS = {"sheet", "jar", "skin", "cast", "book", "tear", "stain", "crack", "loss",
        "not", "sound", "5", "12345", "007", "+", "-", ",", ":", " ", "#", "x", "\u00e9", "\u0000"};
    private static final String[] KINDS = {"sheet", "jar", "skin", "cast", "book"};
    private static final List<String> READING = List.of("thing", "house", "courier", "loan", "report");
    private static final String[] SORTS = {"tear", "stain", "crack", "loss"};

    private final Check check;
    private final TreeMap<String, Integer> seen;
    private Book book;
    private Model model;
    private long state;
    private int span;
    private int favourite;

    private ModelTest(Check check, TreeMap<String, Integer> seen) {
        this.check = check;
        this.seen = seen;
    }

    public static void main(String[] args) {
        Check check = new Check();
        TreeMap<String, Integer> seen = new TreeMap<>();
        for (int run = 0; run < RUNS; run++) {
            check.about("run " + run);
            new ModelTest(check, seen).run(run);
        }
        String[] wanted = {"loan 0", "loan 1", "loan 2", "loan 4 5", "loan 4 6", "loan 4 7", "loan 4 8", "loan 9",
            "thing 0", "thing 2", "thing 4 1", "thing 4 2", "thing 9", "house 0", "house 2", "house 4 3", "house 9",
            "courier 0", "courier 2", "courier 4 4", "courier 9", "report 0", "report 1", "report 2", "report 3",
            "report 4 9", "report 4 10", "report 4 11", "report 9", "appraise 0", "appraise 1", "appraise 3",
            "appraise 9", "cancel 0", "cancel 1", "feed 9", "end 3", "guard 0", "bearer of a loan", "courier goes"};
        for (String what : wanted) {
            check.due("the runs came to '" + what + "'", seen.containsKey(what) ? 1 : 0, 1);
        }
        System.out.println(seen.size() + " kinds of answers came");
        check.close();
    }

    private void run(int seed) {
        state = seed * 7919L + 12345;
        book = new Book();
        model = new Model();
        span = new int[] {40, 120, 990}[below(3)];
        favourite = below(24);
        // some runs make much of the book first, so that there is more to ask about
        int making = favourite == REPORTS ? Book.CALLS : oneIn(3) ? 250 : 100;
        for (int i = 0; i < 4; i++) {
            tellThing();
        }
        tellHouse();
        tellCourier();
        tellCourier();
        while (book.callsLeft() > STEP) {
            if (Book.CALLS - book.callsLeft() < making || below(5) == 0) {
                tellSomething();
            } else {
                askSomething();
            }
        }
    }

    private int below(int bound) {
        state = state * 6364136223846793005L + 1442695040888963407L;
        return (int) ((state >>> 33) % bound);
    }

    private boolean oneIn(int many) {
        return below(many) == 0;
    }

    private void due(String call, int got, int want) {
        check.due(call, got, want);
        boolean tapes = call.equals("feed") || call.equals("end");
        if (!tapes || oneIn(4)) {
            check.due("status() behind " + call, book.status(), model.status);
        }
        if (READING.contains(call) || oneIn(8)) {
            check.due("place() behind " + call, book.place(), model.place);
            check.due("fault() behind " + call, book.fault(), model.fault);
        }
        String key = call.split("[( ]")[0] + " " + model.status + (model.status == 4 ? " " + model.fault : "");
        seen.merge(key, 1, Integer::sum);
    }

    // ---- texts ----

    private String blanks() {
        return oneIn(6) ? " ".repeat(below(3)) : "";
    }

    private String number(int least, int most) {
        int told = oneIn(60) ? below(11000) : least + below(most - least + 1);
        return (oneIn(30) ? "0" : "") + told;
    }

    private String thingText() {
        StringBuilder text = new StringBuilder(blanks() + KINDS[below(5)] + blanks() + number(1, oneIn(4) ? 9999 : 500));
        text.append(' ').append(blanks()).append(number(1, oneIn(4) ? 999 : 60)).append(blanks());
        for (int i = below(9) - 6; i > 0; i--) {
            text.append(" not ").append(KINDS[below(5)]).append(blanks());
        }
        return text.toString();
    }

    private String houseText() {
        return blanks() + number(1, oneIn(5) ? 30 : 4) + " " + number(40, 200) + " "
            + number(0, oneIn(2) ? 9999 : 700) + " " + number(1, 99) + blanks();
    }

    private String courierText() {
        StringBuilder text = new StringBuilder();
        int from = below(10);
        for (int i = below(4); i >= 0; i--) {
            int to = Math.min(from + below(span + 60), oneIn(20) ? 2000 : 999);
            text.append(blanks()).append(from).append(blanks()).append('-').append(to).append(blanks());
            from = to + (oneIn(20) ? 0 : 1 + below(10));
            text.append(i > 0 ? "," : "");
        }
        return text.toString();
    }

    private String loanText() {
        StringBuilder text = new StringBuilder(blanks() + number(0, span) + "+" + blanks() + number(1, oneIn(9) ? 301 : 9));
        text.append(blanks()).append(":").append(blanks());
        int next = below(3);
        String mark = "";
        for (int i = below(8); i >= 0 && (next < model.things.size() || oneIn(60)); i--) {
            text.append(mark).append(next).append(blanks());
            mark = ",";
            next += oneIn(70) ? 0 : 1 + below(3);
        }
        return text.toString();
    }

    private String reportText() {
        if (favourite == REPORTS ? !oneIn(4) : oneIn(6)) {
            return blanks() + "sound" + blanks();
        }
        StringBuilder text = new StringBuilder();
        for (int i = below(oneIn(4) ? 14 : 5); i >= 0; i--) {
            text.append(blanks()).append(SORTS[below(4)]).append(blanks());
            text.append(oneIn(80) ? 100 : below(oneIn(2) ? 3 : 100)).append(' ');
            text.append(oneIn(80) ? 100 * below(2) : 1 + below(99)).append(blanks()).append(i > 0 ? "," : "");
        }
        return text.toString();
    }

    private String spoilt(String text) {
        if (text.length() == 0 || !oneIn(8)) {
            return text;
        }
        int at = below(text.length() + 1);
        switch (below(3)) {
            case 0: return text.substring(0, at);
            case 1: return text.substring(0, at) + WORDS[below(WORDS.length)] + text.substring(at);
            default: return text.substring(0, at) + text.substring(Math.min(text.length(), at + 1 + below(4)));
        }
    }

    private void feed(String text) {
        byte[] bytes = text.getBytes(StandardCharsets.ISO_8859_1);
        int size = Math.min(bytes.length, 120);
        for (int from = 0; from < size; from += 20) {
            int[] five = new int[5];
            for (int i = 0; i < 20; i++) {
                five[i / 4] = five[i / 4] << 8 | (from + i < size ? bytes[from + i] & 255 : 32);
            }
            due("feed", book.feed(five[0], five[1], five[2], five[3], five[4]), model.feed(five));
        }
        if (!oneIn(3)) {
            due("end", book.end(size), model.end(size));
        }
    }

    // ---- calls ----

    private void tellSomething() {
        // 48 REPORTS want nearly all calls of a run
        boolean again = favourite == REPORTS ? !oneIn(12) : favourite < 12 && oneIn(2);
        switch (again ? favourite : below(12)) {
            case 0: tellThing(); break;
            case 1: tellHouse(); break;
            case 2: tellCourier(); break;
            case 3: case 4: case 5: tellLoan(); break;
            case 6: case 7: tellReport(); break;
            case 8: case 9: tellValue(); break;
            case 10: tellCancel(); break;
            default: tellTape(); break;
        }
    }

    private void tellThing() {
        feed(spoilt(thingText()));
        due("thing", book.thing(), model.thing());
    }

    private void tellHouse() {
        feed(spoilt(houseText()));
        due("house", book.house(), model.house());
    }

    private void tellCourier() {
        feed(spoilt(courierText()));
        due("courier", book.courier(), model.courier());
    }

    private void tellLoan() {
        int house = any(model.houses.size());
        feed(spoilt(loanText()));
        due("loan", book.loan(house), model.loan(house));
    }

    private void tellReport() {
        int thing = any(model.things.size());
        int day = day();
        feed(spoilt(reportText()));
        due("report", book.report(thing, day), model.report(thing, day));
    }

    private void tellValue() {
        for (int i = below(6); i >= 0; i--) {
            int thing = any(model.things.size());
            int day = day();
            int value = oneIn(30) ? below(3) * 5000 - 1 : 1 + below(oneIn(2) ? 9999 : 600);
            due("appraise", book.appraise(thing, day, value), model.appraise(thing, day, value));
        }
    }

    private void tellCancel() {
        int loan = any(model.loans.size());
        due("cancel", book.cancel(loan), model.cancel(loan));
    }

    private void tellTape() {
        int n = below(140) - 10;
        due("feed", book.feed(n, -n, n << 20, 0x20202020, 0x6a617220), model.feed(n, -n, n << 20, 0x20202020, 0x6a617220));
        due("end", book.end(n), model.end(n));
        if (oneIn(2)) {
            due("thing", book.thing(), model.thing());
        }
    }

    private int any(int size) {
        if (oneIn(25)) {
            return new int[] {-1, size, size + 1, Integer.MIN_VALUE, Integer.MAX_VALUE}[below(5)];
        }
        return size == 0 ? 0 : below(size);
    }

    /** More often than not a LOAN that STANDS, if there is one. */
    private int anyLoan() {
        int loan = any(model.loans.size());
        for (int i = 0; i < 16 && model.gone(loan) && !oneIn(9); i++) {
            loan = any(model.loans.size());
        }
        return loan;
    }

    private int day() {
        if (oneIn(40)) {
            return new int[] {-1, 0, 999, 1000, Integer.MIN_VALUE, Integer.MAX_VALUE}[below(6)];
        }
        return Math.min(999, below(span + 20));
    }

    private int days() {
        return oneIn(20) ? new int[] {0, 1, 1000, 1001, -1, Integer.MAX_VALUE}[below(6)] : 1 + below(span / 2);
    }

    private int reportDay(int thing) {
        if (Model.bad(thing, model.things) || model.things.get(thing).reports().isEmpty() || oneIn(4)) {
            return day();
        }
        Integer[] told = model.things.get(thing).reports().keySet().toArray(new Integer[0]);
        return told[below(told.length)];
    }

    private void askSomething() {
        int thing = any(model.things.size());
        int loan = anyLoan();
        int courier = any(model.couriers.size());
        int day = day();
        switch (below(22)) {
            case 0: due("count", book.count(thing), model.count(thing)); break;
            case 1: due("value", book.value(thing, day), model.value(thing, day)); break;
            case 2: askTogether(thing, any(model.things.size())); break;
            case 3: due("where", book.where(thing, day), model.where(thing, day)); break;
            case 4: askRow(thing, courier, day, days()); break;
            case 5: due("stage", book.stage(loan, day), model.stage(loan, day)); break;
            case 6: due("parcels", book.parcels(loan), model.parcels(loan)); break;
            case 7: due("parcel", book.parcel(loan, thing), model.parcel(loan, thing)); break;
            case 8: case 9: askParcel(loan, any(4), below(20) == 0 ? any(2) : below(2)); break;
            case 10: due("busy", book.busy(courier), model.busy(courier)); break;
            case 11: due("with", book.with(courier, day), model.with(courier, day)); break;
            case 12: due("cost", book.cost(loan, day), model.cost(loan, day)); break;
            case 13: askPremium(loan, day, day()); break;
            case 14: due("dearest", book.dearest(loan), model.dearest(loan)); break;
            case 15: due("harms", book.harms(thing, day), model.harms(thing, day)); break;
            case 16: askNote(thing, day, below(70) - 2); break;
            case 17: askReport(thing, reportDay(thing)); break;
            case 18: due("charge", book.charge(loan), model.charge(loan)); break;
            case 19: due("home", book.home(), model.home()); break;
            default: askLetter(below(4) == 0 ? any(4) : below(3), below(4), below(40) - 1); break;
        }
    }

    private void askTogether(int one, int other) {
        due("together", book.together(one, other), model.together(one, other));
    }

    private void askRow(int thing, int courier, int day, int days) {
        due("free", book.free(thing, day, days), model.free(thing, day, days));
        due("ready", book.ready(courier, day, days), model.ready(courier, day, days));
    }

    private void askParcel(int loan, int parcel, int way) {
        due("weight", book.weight(loan, parcel), model.weight(loan, parcel));
        int who = model.guard(loan, parcel, way);
        due("guard", book.guard(loan, parcel, way), who);
        if (who >= 0) {
            seen.merge("courier goes", 1, Integer::sum);
        }
    }

    private void askPremium(int loan, int a, int b) {
        int from = oneIn(9) ? a : Math.min(a, b);
        int to = oneIn(9) ? b : Math.max(a, b);
        due("premium", book.premium(loan, from, to), model.premium(loan, from, to));
    }

    private void askNote(int thing, int day, int k) {
        due("note", book.note(thing, day, k), model.note(thing, day, k));
    }

    private void askReport(int thing, int day) {
        due("damage", book.damage(thing, day), model.damage(thing, day));
        int who = model.bearer(thing, day);
        due("bearer", book.bearer(thing, day), who);
        if (who >= 0) {
            seen.merge("bearer of a loan", 1, Integer::sum);
        }
    }

    private void askLetter(int what, int number, int k) {
        due("letter", book.letter(what, number, k), model.letter(what, number, k));
    }
}
