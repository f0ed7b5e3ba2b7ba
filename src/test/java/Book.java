/** A LoanBook that counts its calls: nothing is promised of a 513th, so no test may rest on one. */
final class Book {
    static final int CALLS = 512;
    private final LoanBook book = new LoanBook();
    private int calls = 0;

    int callsLeft() {
        return CALLS - calls;
    }

    private LoanBook called() {
        calls++;
        if (calls > CALLS) {
            throw new IllegalStateException("a test makes more than " + CALLS + " calls of one object");
        }
        return book;
    }

    int feed(int a, int b, int c, int d, int e) {
        return called().feed(a, b, c, d, e);
    }

    int end(int n) {
        return called().end(n);
    }

    int thing() {
        return called().thing();
    }

    int house() {
        return called().house();
    }

    int courier() {
        return called().courier();
    }

    int loan(int house) {
        return called().loan(house);
    }

    int report(int thing, int day) {
        return called().report(thing, day);
    }

    int appraise(int thing, int day, int value) {
        return called().appraise(thing, day, value);
    }

    int cancel(int loan) {
        return called().cancel(loan);
    }

    int place() {
        return called().place();
    }

    int fault() {
        return called().fault();
    }

    int count(int what) {
        return called().count(what);
    }

    int value(int thing, int day) {
        return called().value(thing, day);
    }

    int together(int one, int other) {
        return called().together(one, other);
    }

    int where(int thing, int day) {
        return called().where(thing, day);
    }

    int free(int thing, int day, int days) {
        return called().free(thing, day, days);
    }

    int stage(int loan, int day) {
        return called().stage(loan, day);
    }

    int parcels(int loan) {
        return called().parcels(loan);
    }

    int parcel(int loan, int thing) {
        return called().parcel(loan, thing);
    }

    int weight(int loan, int parcel) {
        return called().weight(loan, parcel);
    }

    int guard(int loan, int parcel, int way) {
        return called().guard(loan, parcel, way);
    }

    int busy(int courier) {
        return called().busy(courier);
    }

    int with(int courier, int day) {
        return called().with(courier, day);
    }

    int ready(int courier, int day, int days) {
        return called().ready(courier, day, days);
    }

    int cost(int loan, int day) {
        return called().cost(loan, day);
    }

    int premium(int loan, int a, int b) {
        return called().premium(loan, a, b);
    }

    int dearest(int loan) {
        return called().dearest(loan);
    }

    int harms(int thing, int day) {
        return called().harms(thing, day);
    }

    int note(int thing, int day, int k) {
        return called().note(thing, day, k);
    }

    int damage(int thing, int day) {
        return called().damage(thing, day);
    }

    int bearer(int thing, int day) {
        return called().bearer(thing, day);
    }

    int charge(int loan) {
        return called().charge(loan);
    }

    int home() {
        return called().home();
    }

    int letter(int what, int number, int k) {
        return called().letter(what, number, k);
    }

    int status() {
        return called().status();
    }
}
