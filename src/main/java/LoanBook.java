import java.util.ArrayList;
import java.util.Arrays;

/** Loans of a museum: ../shared/DOC.md tells what each call promises; capitals here are its terms. */
public final class LoanBook {
    public static final int BAD = -9999;

    private static final int NONE = -1;

    private static final int OK = 0;
    private static final int NO_SUCH = 1;
    private static final int WRONG_TEXT = 2;
    private static final int WRONG_NUMBER = 3;
    private static final int FAULTY = 4;
    private static final int NO_ROOM = 9;

    private static final int FAULT_THING = 1;
    private static final int FAULT_BARS_TWICE = 2;
    private static final int FAULT_HOUSE = 3;
    private static final int FAULT_SPANS = 4;
    private static final int FAULT_LOAN = 5;
    private static final int FAULT_LENT_ALREADY = 6;
    private static final int FAULT_TOO_HEAVY = 7;
    private static final int FAULT_NO_COURIER = 8;
    private static final int FAULT_HARM = 9;
    private static final int FAULT_HARM_TWICE = 10;
    private static final int FAULT_REPORT_TWICE = 11;

    private static final int DAYS = 1000;
    private static final int MOST_THINGS = 16;
    private static final int MOST_HOUSES = 6;
    private static final int MOST_COURIERS = 8;
    private static final int MOST_LOANS = 16;
    private static final int MOST_REPORTS = 48;
    private static final int MOST_APPRAISALS = 48;
    private static final int MOST_VALUE = 9999;

    private static final int STAGE_NONE = 0;
    private static final int STAGE_OUT = 1;
    private static final int STAGE_STAY = 2;
    private static final int STAGE_BACK = 3;

    private static final int OUT = 0;
    private static final int BACK = 1;

    private static final int BLANK = 32;

    // What a PIECE is: a MARK is its own byte, so the others keep clear of those.
    private static final int PIECE_END = -1;
    private static final int PIECE_BROKEN = 0;
    private static final int PIECE_NUMBER = 1;
    private static final int WORD_NOT = 100;
    private static final int WORD_SOUND = 101;
    private static final int WORD_KIND = 102;
    private static final int KINDS = 5;
    private static final int WORD_SORT = 107;
    private static final int SORTS = 4;
    private static final int WORD_END = 111;

    private static final int SPOTS = 100;

    private final Tape tape = new Tape();
    private final Reader reader = new Reader();
    private final ArrayList<Thing> things = new ArrayList<>();
    private final ArrayList<House> houses = new ArrayList<>();
    private final ArrayList<Courier> couriers = new ArrayList<>();
    private final ArrayList<Loan> loans = new ArrayList<>();
    private int standing = 0;
    private int reports = 0;
    private int appraisals = 0;
    private int lastFault = 0;
    private int lastStatus = OK;

    public LoanBook() {
    }

    // ---- telling ----

    public int feed(int a, int b, int c, int d, int e) {
        if (!tape.hasRoomForFive()) {
            return refuse(NO_ROOM);
        }
        tape.append(a);
        tape.append(b);
        tape.append(c);
        tape.append(d);
        tape.append(e);
        return answer(tape.size());
    }

    public int end(int n) {
        if (n < 0 || n > tape.size()) {
            return refuse(WRONG_NUMBER);
        }
        tape.keep(n);
        return answer(n);
    }

    public int thing() {
        reader.begin(tape);
        tape.keep(0);
        boolean right = reader.readsThing();
        int fault = right ? Thing.faultIn(reader) : 0;
        int refusal = refusalOfText(right, fault, things.size() < MOST_THINGS);
        if (refusal != OK) {
            return refuse(refusal);
        }
        things.add(new Thing(things.size(), reader));
        return answer(things.size() - 1);
    }

    public int house() {
        reader.begin(tape);
        tape.keep(0);
        boolean right = reader.readsHouse();
        int fault = right ? House.faultIn(reader) : 0;
        int refusal = refusalOfText(right, fault, houses.size() < MOST_HOUSES);
        if (refusal != OK) {
            return refuse(refusal);
        }
        houses.add(new House(reader));
        return answer(houses.size() - 1);
    }

    public int courier() {
        reader.begin(tape);
        tape.keep(0);
        boolean right = reader.readsCourier();
        int fault = right ? Courier.faultIn(reader) : 0;
        int refusal = refusalOfText(right, fault, couriers.size() < MOST_COURIERS);
        if (refusal != OK) {
            return refuse(refusal);
        }
        couriers.add(new Courier(couriers.size(), reader));
        return answer(couriers.size() - 1);
    }

    public int loan(int house) {
        House borrower = houseAt(house);
        if (borrower == null) {
            tape.keep(0);
            return refuse(NO_SUCH);
        }
        reader.begin(tape);
        tape.keep(0);
        boolean right = reader.readsLoan();
        int number = loans.size();
        int fault = right ? faultInLoan(borrower) : 0;
        Loan made = null;
        if (right && fault == 0) {
            made = draftLoan(borrower);
            boolean isGuarded = findCouriers(made, number, OUT) && findCouriers(made, number, BACK);
            fault = isGuarded ? 0 : FAULT_NO_COURIER;
        }
        int refusal = refusalOfText(right, fault, number < MOST_LOANS);
        if (refusal != OK || made == null) {
            // it may have got some COURIERS ahead of the PARCEL that got none, or have no room
            releaseCouriers(number);
            return refuse(refusal);
        }
        loans.add(made);
        standing++;
        takeThings(made, number);
        return answer(number);
    }

    public int report(int thing, int day) {
        Thing of = thingAt(thing);
        if (of == null || !isDay(day)) {
            tape.keep(0);
            return refuseAsked(of != null);
        }
        reader.begin(tape);
        tape.keep(0);
        boolean right = reader.readsReport();
        int fault = right ? Report.faultIn(reader) : 0;
        if (right && fault == 0 && of.reportOn(day) != null) {
            fault = FAULT_REPORT_TWICE;
        }
        int refusal = refusalOfText(right, fault, reports < MOST_REPORTS);
        if (refusal != OK) {
            return refuse(refusal);
        }
        of.addReport(new Report(day, reader));
        reports++;
        return answer(of.reportsTold());
    }

    public int appraise(int thing, int day, int value) {
        Thing of = thingAt(thing);
        if (of == null || !isDay(day) || value < 1 || value > MOST_VALUE) {
            return refuseAsked(of != null);
        }
        boolean isNew = !of.appraisals.tells(day);
        if (isNew && appraisals >= MOST_APPRAISALS) {
            return refuse(NO_ROOM);
        }
        int before = of.valueOn(day);
        of.appraisals.tell(day, value);
        if (isNew) {
            appraisals++;
        }
        return answer(before);
    }

    public int cancel(int loan) {
        Loan cancelled = standingLoanAt(loan);
        if (cancelled == null) {
            return refuse(NO_SUCH);
        }
        cancelled.stands = false;
        standing--;
        releaseThings(loan);
        releaseCouriers(loan);
        return answer(standing);
    }

    // ---- asking: texts, things ----

    public int place() {
        return reader.wrongAt();
    }

    public int fault() {
        return lastFault;
    }

    public int count(int what) {
        switch (what) {
            case 0: return answer(things.size());
            case 1: return answer(houses.size());
            case 2: return answer(couriers.size());
            case 3: return answer(loans.size());
            case 4: return answer(standing);
            case 5: return answer(reports);
            case 6: return answer(tape.size());
            default: return refuse(WRONG_NUMBER);
        }
    }

    public int value(int thing, int day) {
        Thing of = thingAt(thing);
        if (of == null || !isDay(day)) {
            return refuseAsked(of != null);
        }
        return answer(of.valueOn(day));
    }

    public int together(int one, int other) {
        Thing first = thingAt(one);
        Thing second = thingAt(other);
        if (first == null || second == null) {
            return refuse(NO_SUCH);
        }
        return answer(first.bars(second.kind) || second.bars(first.kind) ? 0 : 1);
    }

    public int where(int thing, int day) {
        Thing of = thingAt(thing);
        if (of == null || !isDay(day)) {
            return refuseAsked(of != null);
        }
        return answer(of.calendar.loanOn(day));
    }

    public int free(int thing, int day, int days) {
        Thing of = thingAt(thing);
        if (of == null || !isDay(day) || !isLength(days)) {
            return refuseAsked(of != null);
        }
        return answer(of.calendar.firstOpen(day, days));
    }

    // ---- asking: loans, parcels, couriers ----

    public int stage(int loan, int day) {
        Loan of = standingLoanAt(loan);
        if (of == null || !isDay(day)) {
            return refuseAsked(of != null);
        }
        return answer(of.stageOn(day));
    }

    public int parcels(int loan) {
        Loan of = standingLoanAt(loan);
        if (of == null) {
            return refuse(NO_SUCH);
        }
        return answer(of.parcels.size());
    }

    public int parcel(int loan, int thing) {
        Loan of = standingLoanAt(loan);
        int number = of == null ? NONE : of.parcelWith(thing);
        if (number == NONE) {
            return refuse(NO_SUCH);
        }
        return answer(number);
    }

    public int weight(int loan, int parcel) {
        Loan of = standingLoanAt(loan);
        Parcel asked = of == null ? null : of.parcelAt(parcel);
        if (asked == null) {
            return refuse(NO_SUCH);
        }
        return answer(asked.weighs);
    }

    public int guard(int loan, int parcel, int way) {
        Loan of = standingLoanAt(loan);
        Parcel asked = of == null ? null : of.parcelAt(parcel);
        if (asked == null || (way != OUT && way != BACK)) {
            return refuseAsked(asked != null);
        }
        return answer(asked.courierOn(way));
    }

    public int busy(int courier) {
        Courier of = courierAt(courier);
        if (of == null) {
            return refuse(NO_SUCH);
        }
        return answer(of.calendar.daysTaken());
    }

    public int with(int courier, int day) {
        Courier of = courierAt(courier);
        if (of == null || !isDay(day)) {
            return refuseAsked(of != null);
        }
        return answer(of.calendar.loanOn(day));
    }

    public int ready(int courier, int day, int days) {
        Courier of = courierAt(courier);
        if (of == null || !isDay(day) || !isLength(days)) {
            return refuseAsked(of != null);
        }
        return answer(of.calendar.firstOpen(day, days));
    }

    // ---- asking: insurance, reports ----

    public int cost(int loan, int day) {
        Loan of = standingLoanAt(loan);
        if (of == null || !isDay(day)) {
            return refuseAsked(of != null);
        }
        return answer(of.costOn(day));
    }

    public int premium(int loan, int a, int b) {
        Loan of = standingLoanAt(loan);
        if (of == null || !isDay(a) || !isDay(b) || a > b) {
            return refuseAsked(of != null);
        }
        return answer((int) (of.costBetween(a, b) / 10000));
    }

    public int dearest(int loan) {
        Loan of = standingLoanAt(loan);
        if (of == null) {
            return refuse(NO_SUCH);
        }
        return answer(of.dearestDay());
    }

    public int harms(int thing, int day) {
        Thing of = thingAt(thing);
        if (of == null || !isDay(day)) {
            return refuseAsked(of != null);
        }
        return answer(of.harmsOn(day));
    }

    public int note(int thing, int day, int k) {
        Thing of = thingAt(thing);
        if (of == null || !isDay(day)) {
            return refuseAsked(of != null);
        }
        Report inForce = of.reportAt(of.latestReport(day));
        if (inForce == null) {
            return refuse(NO_SUCH);
        }
        return answerByte(inForce.written, k);
    }

    public int damage(int thing, int day) {
        Thing of = thingAt(thing);
        if (of == null || !isDay(day)) {
            return refuseAsked(of != null);
        }
        if (of.reportOn(day) == null) {
            return refuse(NO_SUCH);
        }
        return answer(of.damageTold(of.latestReport(day)));
    }

    public int bearer(int thing, int day) {
        Thing of = thingAt(thing);
        if (of == null || !isDay(day)) {
            return refuseAsked(of != null);
        }
        if (of.reportOn(day) == null) {
            return refuse(NO_SUCH);
        }
        return answer(bearerOf(of, of.latestReport(day)));
    }

    public int charge(int loan) {
        if (standingLoanAt(loan) == null) {
            return refuse(NO_SUCH);
        }
        return answer(damagesBorneBy(loan));
    }

    public int home() {
        return damagesBorneBy(NONE);
    }

    public int letter(int what, int number, int k) {
        if (what < 0 || what > 2) {
            return refuse(WRONG_NUMBER);
        }
        String written = writingOf(what, number);
        if (written == null) {
            return refuse(NO_SUCH);
        }
        return answerByte(written, k);
    }

    public int status() {
        return lastStatus;
    }

    // ---- answers and refusals ----

    private int answer(int told) {
        lastStatus = OK;
        return told;
    }

    private int refuse(int why) {
        lastStatus = why;
        return BAD;
    }

    private int refuseAsked(boolean isThere) {
        return refuse(isThere ? WRONG_NUMBER : NO_SUCH);
    }

    private int answerByte(String written, int k) {
        if (k < 0 || k >= written.length()) {
            return refuse(NO_SUCH);
        }
        return answer(written.charAt(k));
    }

    private int refusalOfText(boolean right, int fault, boolean hasRoom) {
        lastFault = fault;
        if (!right) {
            return WRONG_TEXT;
        }
        if (fault != 0) {
            return FAULTY;
        }
        return hasRoom ? OK : NO_ROOM;
    }

    private static boolean isDay(int day) {
        return day >= 0 && day < DAYS;
    }

    private static boolean isLength(int days) {
        return days >= 1 && days <= DAYS;
    }

    // ---- what has been told, by number ----

    private Thing thingAt(int number) {
        return number >= 0 && number < things.size() ? things.get(number) : null;
    }

    private House houseAt(int number) {
        return number >= 0 && number < houses.size() ? houses.get(number) : null;
    }

    private Courier courierAt(int number) {
        return number >= 0 && number < couriers.size() ? couriers.get(number) : null;
    }

    private Loan standingLoanAt(int number) {
        if (number < 0 || number >= loans.size()) {
            return null;
        }
        Loan asked = loans.get(number);
        return asked.stands ? asked : null;
    }

    private String writingOf(int what, int number) {
        if (what == 0) {
            Thing asked = thingAt(number);
            return asked == null ? null : asked.written;
        }
        if (what == 1) {
            House asked = houseAt(number);
            return asked == null ? null : asked.written;
        }
        Courier asked = courierAt(number);
        return asked == null ? null : asked.written;
    }

    // ---- making loans ----

    private int faultInLoan(House borrower) {
        int first = reader.told(0);
        int stay = reader.told(1);
        int last = first + 2 * borrower.way + stay - 1;
        if (stay < 1 || stay > 300 || last >= DAYS || !tellsThingsRising()) {
            return FAULT_LOAN;
        }
        boolean isTooHeavy = false;
        for (int i = 2; i < reader.size(); i++) {
            Thing lent = thingAt(reader.told(i));
            if (lent != null && !lent.calendar.isOpen(first, last)) {
                return FAULT_LENT_ALREADY;
            }
            if (lent != null && lent.weighs > borrower.limit) {
                isTooHeavy = true;
            }
        }
        return isTooHeavy ? FAULT_TOO_HEAVY : 0;
    }

    private boolean tellsThingsRising() {
        int ahead = NONE;
        for (int i = 2; i < reader.size(); i++) {
            int number = reader.told(i);
            if (number <= ahead || number >= things.size()) {
                return false;
            }
            ahead = number;
        }
        return true;
    }

    private Loan draftLoan(House borrower) {
        Loan draft = new Loan(borrower, reader.told(0), reader.told(1));
        ArrayList<Thing> lent = new ArrayList<>();
        for (int i = 2; i < reader.size(); i++) {
            Thing next = thingAt(reader.told(i));
            if (next != null) {
                addByWeight(lent, next);
            }
        }
        for (int i = 0; i < lent.size(); i++) {
            draft.pack(lent.get(i));
        }
        return draft;
    }

    private static void addByWeight(ArrayList<Thing> heaviestFirst, Thing next) {
        int at = 0;
        while (at < heaviestFirst.size() && heaviestFirst.get(at).weighs >= next.weighs) {
            at++;
        }
        heaviestFirst.add(at, next);
    }

    private boolean findCouriers(Loan draft, int number, int way) {
        int from = draft.firstOf(way);
        int to = from + draft.borrower.way - 1;
        for (int i = 0; i < draft.parcels.size(); i++) {
            Parcel next = draft.nextToGuard(way);
            if (next == null) {
                return true;
            }
            Courier chosen = leastBusyCourier(from, to);
            if (chosen == null) {
                return false;
            }
            chosen.calendar.take(from, to, number);
            next.guardBy(chosen.number, way);
        }
        return true;
    }

    private Courier leastBusyCourier(int from, int to) {
        Courier least = null;
        for (int i = 0; i < couriers.size(); i++) {
            Courier next = couriers.get(i);
            boolean isLess = least == null || next.calendar.daysTaken() < least.calendar.daysTaken();
            if (isLess && next.calendar.isOpen(from, to)) {
                least = next;
            }
        }
        return least;
    }

    private void takeThings(Loan made, int number) {
        for (int i = 0; i < things.size(); i++) {
            Thing next = things.get(i);
            if (made.parcelWith(i) != NONE) {
                next.calendar.take(made.first, made.last(), number);
            }
        }
    }

    private void releaseThings(int loan) {
        for (int i = 0; i < things.size(); i++) {
            things.get(i).calendar.release(loan);
        }
    }

    private void releaseCouriers(int loan) {
        for (int i = 0; i < couriers.size(); i++) {
            couriers.get(i).calendar.release(loan);
        }
    }

    // ---- who pays ----

    private int bearerOf(Thing of, int reportNumber) {
        Report own = of.reportAt(reportNumber);
        Report ahead = of.reportAt(reportNumber - 1);
        if (own == null || ahead == null) {
            return NONE;
        }
        int bearer = NONE;
        int mostDays = 0;
        int firstDay = DAYS;
        for (int i = 0; i < loans.size(); i++) {
            Loan next = loans.get(i);
            if (!next.stands || next.parcelWith(of.number) == NONE) {
                continue;
            }
            int days = next.daysBetween(ahead.day + 1, own.day);
            boolean isAsGood = days > 0 && days == mostDays && next.first < firstDay;
            if (days > mostDays || isAsGood) {
                bearer = i;
                mostDays = days;
                firstDay = next.first;
            }
        }
        return bearer;
    }

    private int damagesBorneBy(int loan) {
        long sum = 0;
        for (int i = 0; i < things.size(); i++) {
            Thing of = things.get(i);
            for (int k = 0; k < of.reportsTold(); k++) {
                if (bearerOf(of, k) == loan) {
                    sum += of.damageTold(k);
                }
            }
        }
        return (int) (sum / 1000);
    }

    // ---- words ----

    private static String spelling(int word) {
        switch (word) {
            case WORD_NOT: return "not";
            case WORD_SOUND: return "sound";
            case WORD_KIND: return "sheet";
            case WORD_KIND + 1: return "jar";
            case WORD_KIND + 2: return "skin";
            case WORD_KIND + 3: return "cast";
            case WORD_KIND + 4: return "book";
            case WORD_SORT: return "tear";
            case WORD_SORT + 1: return "stain";
            case WORD_SORT + 2: return "crack";
            case WORD_SORT + 3: return "loss";
            default: return "";
        }
    }

    private static int gravity(int sort) {
        switch (sort) {
            case 0: return 3;
            case 1: return 2;
            case 2: return 5;
            default: return 8;
        }
    }

    // ---- texts ----

    private static final class Tape {
        static final int ROOM = 120;
        private static final int FED_AT_ONCE = 20;

        private final int[] bytes = new int[ROOM];
        private int size = 0;

        int size() {
            return size;
        }

        boolean hasRoomForFive() {
            return size + FED_AT_ONCE <= ROOM;
        }

        void append(int four) {
            for (int shift = 24; shift >= 0 && size < ROOM; shift -= 8) {
                bytes[size] = (four >>> shift) & 255;
                size++;
            }
        }

        void keep(int n) {
            if (n >= 0 && n <= size) {
                size = n;
            }
        }

        int byteAt(int i) {
            return i >= 0 && i < size ? bytes[i] : NONE;
        }
    }

    /** The PIECES that stand on the TAPE, each with its first byte's place. */
    private static final class Pieces {
        private static final int MOST_DIGITS = 4;

        private final int[] starts = new int[Tape.ROOM];
        private final int[] codes = new int[Tape.ROOM];
        private final int[] numbers = new int[Tape.ROOM];
        private int size = 0;
        private int end = 0;

        void cut(Tape tape) {
            size = 0;
            end = tape.size();
            int at = 0;
            for (int step = 0; step < Tape.ROOM && at < end; step++) {
                at = cutFrom(tape, at);
            }
        }

        int codeAt(int i) {
            return i >= 0 && i < size ? codes[i] : PIECE_END;
        }

        int numberAt(int i) {
            return i >= 0 && i < size ? numbers[i] : 0;
        }

        int startAt(int i) {
            return i >= 0 && i < size ? starts[i] : end;
        }

        private int cutFrom(Tape tape, int at) {
            int first = tape.byteAt(at);
            if (first == BLANK) {
                return at + 1;
            }
            if (first >= '0' && first <= '9') {
                int behind = behindRow(tape, at, '0', '9');
                boolean isNumber = behind - at <= MOST_DIGITS;
                add(at, isNumber ? PIECE_NUMBER : PIECE_BROKEN, isNumber ? numberIn(tape, at, behind) : 0);
                return behind;
            }
            if (first >= 'a' && first <= 'z') {
                int behind = behindRow(tape, at, 'a', 'z');
                add(at, wordIn(tape, at, behind), 0);
                return behind;
            }
            boolean isMark = first == '+' || first == '-' || first == ',' || first == ':';
            add(at, isMark ? first : PIECE_BROKEN, 0);
            return at + 1;
        }

        private int behindRow(Tape tape, int at, int least, int most) {
            int behind = at;
            while (behind < end && tape.byteAt(behind) >= least && tape.byteAt(behind) <= most) {
                behind++;
            }
            return behind;
        }

        private int numberIn(Tape tape, int from, int behind) {
            int number = 0;
            for (int i = from; i < behind; i++) {
                number = number * 10 + tape.byteAt(i) - '0';
            }
            return number;
        }

        private int wordIn(Tape tape, int from, int behind) {
            for (int word = WORD_NOT; word < WORD_END; word++) {
                if (isSpelt(tape, spelling(word), from, behind)) {
                    return word;
                }
            }
            return PIECE_BROKEN;
        }

        private boolean isSpelt(Tape tape, String word, int from, int behind) {
            if (word.length() != behind - from) {
                return false;
            }
            for (int i = 0; i < word.length(); i++) {
                if (word.charAt(i) != tape.byteAt(from + i)) {
                    return false;
                }
            }
            return true;
        }

        private void add(int start, int code, int number) {
            if (size < Tape.ROOM) {
                starts[size] = start;
                codes[size] = code;
                numbers[size] = number;
                size++;
            }
        }
    }

    /** Reads a text into a row: its numbers, KINDS and SORTS in the order in which they stand. */
    private static final class Reader {
        private final Pieces pieces = new Pieces();
        private final int[] row = new int[Tape.ROOM];
        private int size = 0;
        private int at = 0;
        private int wrongAt = BAD;

        int size() {
            return size;
        }

        int told(int i) {
            return i >= 0 && i < size ? row[i] : 0;
        }

        int wrongAt() {
            return wrongAt;
        }

        /** Cuts the text into PIECES: the TAPE may change from then on. */
        void begin(Tape tape) {
            pieces.cut(tape);
            size = 0;
            at = 0;
            wrongAt = BAD;
        }

        boolean readsThing() {
            return takesWord(WORD_KIND, KINDS) && takesNumber() && takesNumber() && takesBars() && isAtEnd();
        }

        boolean readsHouse() {
            return takesNumber() && takesNumber() && takesNumber() && takesNumber() && isAtEnd();
        }

        boolean readsCourier() {
            boolean right = takesSpan();
            for (int step = 0; step < Tape.ROOM && right && skips(','); step++) {
                right = takesSpan();
            }
            return right && isAtEnd();
        }

        boolean readsLoan() {
            boolean right = takesNumber() && takesMark('+') && takesNumber() && takesMark(':') && takesNumber();
            for (int step = 0; step < Tape.ROOM && right && skips(','); step++) {
                right = takesNumber();
            }
            return right && isAtEnd();
        }

        boolean readsReport() {
            if (skips(WORD_SOUND)) {
                return isAtEnd();
            }
            boolean right = takesHarm();
            for (int step = 0; step < Tape.ROOM && right && skips(','); step++) {
                right = takesHarm();
            }
            return right && isAtEnd();
        }

        private boolean isWrongHere() {
            wrongAt = pieces.startAt(at);
            return false;
        }

        private boolean isAtEnd() {
            return pieces.codeAt(at) == PIECE_END || isWrongHere();
        }

        private boolean skips(int code) {
            if (pieces.codeAt(at) != code) {
                return false;
            }
            at++;
            return true;
        }

        private boolean takesMark(int mark) {
            return skips(mark) || isWrongHere();
        }

        private boolean takesNumber() {
            if (pieces.codeAt(at) != PIECE_NUMBER) {
                return isWrongHere();
            }
            add(pieces.numberAt(at));
            at++;
            return true;
        }

        private boolean takesWord(int first, int many) {
            int number = pieces.codeAt(at) - first;
            if (number < 0 || number >= many) {
                return isWrongHere();
            }
            add(number);
            at++;
            return true;
        }

        private boolean takesBars() {
            boolean right = true;
            for (int step = 0; step < Tape.ROOM && right && skips(WORD_NOT); step++) {
                right = takesWord(WORD_KIND, KINDS);
            }
            return right;
        }

        private boolean takesSpan() {
            return takesNumber() && takesMark('-') && takesNumber();
        }

        private boolean takesHarm() {
            return takesWord(WORD_SORT, SORTS) && takesNumber() && takesNumber();
        }

        private void add(int number) {
            if (size < Tape.ROOM) {
                row[size] = number;
                size++;
            }
        }
    }

    // ---- days ----

    /** Which LOAN takes each DAY, of a THING or of a COURIER. */
    private static final class Calendar {
        private static final int OPEN = -1;
        private static final int CLOSED = -2;

        private final int[] days = new int[DAYS];
        private int taken = 0;

        Calendar(boolean isOpen) {
            Arrays.fill(days, isOpen ? OPEN : CLOSED);
        }

        void open(int from, int to) {
            fill(from, to, OPEN);
        }

        boolean isOpen(int from, int to) {
            if (!isDay(from) || !isDay(to)) {
                return false;
            }
            for (int day = from; day <= to; day++) {
                if (days[day] != OPEN) {
                    return false;
                }
            }
            return true;
        }

        int firstOpen(int from, int many) {
            int inRow = 0;
            for (int day = Math.max(from, 0); day < DAYS; day++) {
                inRow = days[day] == OPEN ? inRow + 1 : 0;
                if (inRow == many) {
                    return day - many + 1;
                }
            }
            return NONE;
        }

        int loanOn(int day) {
            return isDay(day) ? Math.max(days[day], NONE) : NONE;
        }

        int daysTaken() {
            return taken;
        }

        void take(int from, int to, int loan) {
            fill(from, to, loan);
            taken += to - from + 1;
        }

        void release(int loan) {
            for (int day = 0; day < DAYS; day++) {
                if (days[day] == loan) {
                    days[day] = OPEN;
                    taken--;
                }
            }
        }

        private void fill(int from, int to, int with) {
            for (int day = Math.max(from, 0); day <= to && day < DAYS; day++) {
                days[day] = with;
            }
        }
    }

    /** What appraise() told of one THING, rising by DAYS. */
    private static final class Appraisals {
        private final int[] days = new int[MOST_APPRAISALS];
        private final int[] values = new int[MOST_APPRAISALS];
        private int size = 0;

        boolean tells(int day) {
            int at = latest(day);
            return at >= 0 && at < size && days[at] == day;
        }

        int latestValue(int day, int first) {
            int at = latest(day);
            return at >= 0 && at < size ? values[at] : first;
        }

        void tell(int day, int value) {
            if (!tells(day)) {
                insertAt(latest(day) + 1, day);
            }
            int at = latest(day);
            if (at >= 0 && at < size) {
                values[at] = value;
            }
        }

        private int latest(int day) {
            int at = size - 1;
            while (at >= 0 && days[at] > day) {
                at--;
            }
            return at;
        }

        private void insertAt(int place, int day) {
            if (size >= MOST_APPRAISALS || place < 0 || place > size) {
                return;
            }
            for (int i = size; i > place; i--) {
                days[i] = days[i - 1];
                values[i] = values[i - 1];
            }
            days[place] = day;
            size++;
        }
    }

    // ---- what texts tell ----

    private static final class Thing {
        final int number;
        final int kind;
        final int weighs;
        final String written;
        final Calendar calendar = new Calendar(true);
        final Appraisals appraisals = new Appraisals();
        private final int firstValue;
        private final int barred;
        private final ArrayList<Report> reports = new ArrayList<>();

        Thing(int number, Reader text) {
            this.number = number;
            kind = text.told(0);
            firstValue = text.told(1);
            weighs = text.told(2);
            int bits = 0;
            for (int i = 3; i < text.size(); i++) {
                bits |= 1 << text.told(i);
            }
            barred = bits;
            written = write(kind, firstValue, weighs, barred);
        }

        static int faultIn(Reader text) {
            if (text.told(1) < 1 || text.told(2) < 1 || text.told(2) > 999) {
                return FAULT_THING;
            }
            int bits = 0;
            for (int i = 3; i < text.size(); i++) {
                if (holdsBit(bits, text.told(i))) {
                    return FAULT_BARS_TWICE;
                }
                bits |= 1 << text.told(i);
            }
            return 0;
        }

        private static String write(int kind, int firstValue, int weighs, int barred) {
            StringBuilder text = new StringBuilder();
            text.append(spelling(WORD_KIND + kind)).append(' ').append(firstValue).append(' ').append(weighs);
            for (int other = 0; other < KINDS; other++) {
                if (holdsBit(barred, other)) {
                    text.append(" not ").append(spelling(WORD_KIND + other));
                }
            }
            return text.toString();
        }

        boolean bars(int other) {
            return holdsBit(barred, other);
        }

        private static boolean holdsBit(int bits, int bit) {
            return ((bits >> bit) & 1) == 1;
        }

        int valueOn(int day) {
            return appraisals.latestValue(day, firstValue);
        }

        int reportsTold() {
            return reports.size();
        }

        Report reportAt(int i) {
            return i >= 0 && i < reports.size() ? reports.get(i) : null;
        }

        int latestReport(int day) {
            int at = reports.size() - 1;
            while (at >= 0 && reports.get(at).day > day) {
                at--;
            }
            return at;
        }

        Report reportOn(int day) {
            Report latest = reportAt(latestReport(day));
            return latest != null && latest.day == day ? latest : null;
        }

        void addReport(Report told) {
            reports.add(latestReport(told.day) + 1, told);
        }

        int harmsOn(int day) {
            Report inForce = reportAt(latestReport(day));
            return inForce == null ? 0 : inForce.harmsTold();
        }

        // A TAPE holds 15 HARMS at most, so that an int holds any DAMAGE.
        int damageTold(int i) {
            Report own = reportAt(i);
            Report ahead = reportAt(i - 1);
            return own == null || ahead == null ? 0 : own.worseThan(ahead) * valueOn(own.day);
        }
    }

    private static final class House {
        final int way;
        final int limit;
        final int guard;
        final int rate;
        final String written;

        House(Reader text) {
            way = text.told(0);
            limit = text.told(1);
            guard = text.told(2);
            rate = text.told(3);
            StringBuilder writing = new StringBuilder();
            writing.append(way).append(' ').append(limit).append(' ').append(guard).append(' ').append(rate);
            written = writing.toString();
        }

        static int faultIn(Reader text) {
            boolean isRight = text.told(0) >= 1 && text.told(0) <= 30 && text.told(1) >= 1
                && text.told(3) >= 1 && text.told(3) <= 99;
            return isRight ? 0 : FAULT_HOUSE;
        }
    }

    private static final class Courier {
        final int number;
        final String written;
        final Calendar calendar = new Calendar(false);

        Courier(int number, Reader text) {
            this.number = number;
            StringBuilder writing = new StringBuilder();
            for (int i = 0; i + 1 < text.size(); i += 2) {
                calendar.open(text.told(i), text.told(i + 1));
                if (i > 0) {
                    writing.append(", ");
                }
                writing.append(text.told(i)).append('-').append(text.told(i + 1));
            }
            written = writing.toString();
        }

        static int faultIn(Reader text) {
            int ahead = NONE;
            for (int i = 0; i + 1 < text.size(); i += 2) {
                int from = text.told(i);
                int to = text.told(i + 1);
                if (from <= ahead || from > to || to >= DAYS) {
                    return FAULT_SPANS;
                }
                ahead = to;
            }
            return 0;
        }
    }

    private static final class Report {
        final int day;
        final String written;
        // SORT and SPOT of each HARM as one number, rising, so that the order is that of the writing.
        private final int[] spots;
        private final int[] sizes;

        Report(int day, Reader text) {
            this.day = day;
            int many = harmsIn(text);
            spots = new int[many];
            sizes = new int[many];
            for (int i = 0; i < many; i++) {
                int spot = spotIn(text, i);
                int at = i;
                while (at > 0 && spots[at - 1] > spot) {
                    spots[at] = spots[at - 1];
                    sizes[at] = sizes[at - 1];
                    at--;
                }
                spots[at] = spot;
                sizes[at] = text.told(3 * i + 2);
            }
            written = write(spots, sizes);
        }

        static int faultIn(Reader text) {
            int many = harmsIn(text);
            for (int i = 0; i < many; i++) {
                int size = text.told(3 * i + 2);
                if (text.told(3 * i + 1) >= SPOTS || size < 1 || size > 99) {
                    return FAULT_HARM;
                }
            }
            for (int i = 0; i < many; i++) {
                for (int k = 0; k < i; k++) {
                    if (spotIn(text, i) == spotIn(text, k)) {
                        return FAULT_HARM_TWICE;
                    }
                }
            }
            return 0;
        }

        private static int harmsIn(Reader text) {
            return Math.max(text.size() / 3, 0);
        }

        private static int spotIn(Reader text, int harm) {
            return text.told(3 * harm) * SPOTS + text.told(3 * harm + 1);
        }

        private static String write(int[] spots, int[] sizes) {
            if (spots.length == 0) {
                return spelling(WORD_SOUND);
            }
            StringBuilder text = new StringBuilder();
            for (int i = 0; i < spots.length && i < sizes.length; i++) {
                if (i > 0) {
                    text.append(", ");
                }
                text.append(spelling(WORD_SORT + spots[i] / SPOTS)).append(' ');
                text.append(spots[i] % SPOTS).append(' ').append(sizes[i]);
            }
            return text.toString();
        }

        int harmsTold() {
            return spots.length;
        }

        int worseThan(Report ahead) {
            int sum = 0;
            for (int i = 0; i < spots.length && i < sizes.length; i++) {
                int grown = sizes[i] - ahead.sizeAt(spots[i]);
                sum += Math.max(grown, 0) * gravity(spots[i] / SPOTS);
            }
            return sum;
        }

        private int sizeAt(int spot) {
            for (int i = 0; i < spots.length && i < sizes.length; i++) {
                if (spots[i] == spot) {
                    return sizes[i];
                }
            }
            return 0;
        }
    }

    // ---- loans ----

    private static final class Parcel {
        int weighs = 0;
        private final ArrayList<Thing> content = new ArrayList<>();
        private int courierOut = NONE;
        private int courierBack = NONE;

        boolean fits(Thing next, int limit) {
            if (weighs + next.weighs > limit) {
                return false;
            }
            for (int i = 0; i < content.size(); i++) {
                Thing other = content.get(i);
                if (other.bars(next.kind) || next.bars(other.kind)) {
                    return false;
                }
            }
            return true;
        }

        void put(Thing next) {
            content.add(next);
            weighs += next.weighs;
        }

        boolean holds(int thing) {
            for (int i = 0; i < content.size(); i++) {
                if (content.get(i).number == thing) {
                    return true;
                }
            }
            return false;
        }

        int courierOn(int way) {
            return way == OUT ? courierOut : courierBack;
        }

        void guardBy(int courier, int way) {
            if (way == OUT) {
                courierOut = courier;
            } else {
                courierBack = courier;
            }
        }

        int worthOn(int day) {
            int sum = 0;
            for (int i = 0; i < content.size(); i++) {
                sum += content.get(i).valueOn(day);
            }
            return sum;
        }

        int riskOn(int day) {
            int sum = 0;
            for (int i = 0; i < content.size(); i++) {
                Thing next = content.get(i);
                sum += next.valueOn(day) * (10 + next.harmsOn(day));
            }
            return sum;
        }
    }

    private static final class Loan {
        final House borrower;
        final int first;
        final ArrayList<Parcel> parcels = new ArrayList<>();
        boolean stands = true;
        private final int stay;

        Loan(House borrower, int first, int stay) {
            this.borrower = borrower;
            this.first = first;
            this.stay = stay;
        }

        int last() {
            return first + 2 * borrower.way + stay - 1;
        }

        int firstOf(int way) {
            return way == OUT ? first : first + borrower.way + stay;
        }

        int stageOn(int day) {
            if (day < first || day > last()) {
                return STAGE_NONE;
            }
            if (day < first + borrower.way) {
                return STAGE_OUT;
            }
            return day < firstOf(BACK) ? STAGE_STAY : STAGE_BACK;
        }

        int daysBetween(int from, int to) {
            return Math.max(Math.min(to, last()) - Math.max(from, first) + 1, 0);
        }

        void pack(Thing next) {
            for (int i = 0; i < parcels.size(); i++) {
                if (parcels.get(i).fits(next, borrower.limit)) {
                    parcels.get(i).put(next);
                    return;
                }
            }
            Parcel added = new Parcel();
            added.put(next);
            parcels.add(added);
        }

        Parcel parcelAt(int i) {
            return i >= 0 && i < parcels.size() ? parcels.get(i) : null;
        }

        int parcelWith(int thing) {
            for (int i = 0; i < parcels.size(); i++) {
                if (parcels.get(i).holds(thing)) {
                    return i;
                }
            }
            return NONE;
        }

        Parcel nextToGuard(int way) {
            Parcel dearest = null;
            int most = borrower.guard;
            for (int i = 0; i < parcels.size(); i++) {
                Parcel next = parcels.get(i);
                int told = next.worthOn(firstOf(way));
                if (next.courierOn(way) == NONE && told > most) {
                    dearest = next;
                    most = told;
                }
            }
            return dearest;
        }

        // 16 THINGS of 9999 with 15 HARMS each, at a RATE of 99, three times, are less than 2^31.
        int costOn(int day) {
            int now = stageOn(day);
            if (now == STAGE_NONE) {
                return 0;
            }
            int sum = 0;
            for (int i = 0; i < parcels.size(); i++) {
                Parcel next = parcels.get(i);
                sum += next.riskOn(day) * dangerOf(next, now);
            }
            return sum * borrower.rate;
        }

        private static int dangerOf(Parcel parcel, int now) {
            if (now == STAGE_STAY) {
                return 1;
            }
            return parcel.courierOn(now == STAGE_OUT ? OUT : BACK) == NONE ? 3 : 2;
        }

        long costBetween(int from, int to) {
            long sum = 0;
            int end = Math.min(to, last());
            for (int day = Math.max(from, first); day <= end; day++) {
                sum += costOn(day);
            }
            return sum;
        }

        int dearestDay() {
            int dearest = first;
            int most = 0;
            int end = last();
            for (int day = first; day <= end; day++) {
                int told = costOn(day);
                if (told > most) {
                    dearest = day;
                    most = told;
                }
            }
            return dearest;
        }
    }
}
