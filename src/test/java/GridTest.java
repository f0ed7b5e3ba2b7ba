import java.util.ArrayList;
import java.util.List;

/** Every number at an edge, in each place of each call, answered by the class and by the Model alike: and none throws. */
public final class GridTest {
    private static final int BAD = Check.BAD;
    private static final int[] ALL = {Integer.MIN_VALUE, Integer.MIN_VALUE + 1, -9999, -1000, -2, -1, 0, 1, 2, 3, 4, 5, 6, 7, 8, 9,
        10, 11, 12, 14, 15, 16, 17, 18, 19, 20, 29, 30, 31, 32, 47, 48, 119, 120, 121, 300, 301, 500, 501, 998, 999, 1000, 1001,
        9998, 9999, 10000, 65536, Integer.MAX_VALUE - 1, Integer.MAX_VALUE};
    /** Of calls of three numbers, so that they are not too many. */
    private static final int[] FEW = {Integer.MIN_VALUE, -1, 0, 1, 2, 4, 10, 12, 15, 16, 48, 500, 985, 999, 1000, 1001,
        Integer.MAX_VALUE};
    private static final int[] VALUES = {Integer.MIN_VALUE, -1, 0, 1, 2, 9998, 9999, 10000, Integer.MAX_VALUE};
    private static final String[] NOTHING = {};
    private static final String[] MUCH = {"thing jar 1000 50", "thing jar 300 40 not skin", "thing skin 200 30", "thing book 900 20",
        "house 2 100 500 7", "house 1 45 0 3", "courier 0-500", "courier 0-99, 200-300, 985-999", "appraise 0 12 1500",
        "appraise 1 5 250", "appraise 2 900 1", "loan 0 10+5:0,1,2", "loan 1 30+3:3", "loan 0 50+2:0", "cancel 2",
        "report 0 5 tear 1 5", "report 0 15 tear 1 9, loss 2 1", "report 1 0 sound", "report 1 14 stain 3 3", "report 3 9 sound",
        "report 3 31 crack 5 50", "report 3 999 crack 5 80", "loan 1 997+1:3", "tape jar 3 3"};
    private static final String[] FULL = full();
    private static final Check check = new Check();

    private final String[] told;
    private Book book;
    private Model model;

    /** A call of up to three numbers, made of the Book and of the Model. */
    interface Call {
        int of(Book book, Model model, int a, int b, int c);
    }

    private GridTest(String[] told) {
        this.told = told;
        fresh();
    }

    public static void main(String[] args) {
        for (String[] told : new String[][] {NOTHING, MUCH, FULL}) {
            GridTest grid = new GridTest(told);
            grid.ofOneNumber();
            grid.ofTwoNumbers();
            grid.ofThreeNumbers();
            grid.ofTellingNumbers();
            grid.feeding();
        }
        check.close();
    }

    /** Sixteen of what there may be sixteen of, and so on; and a full TAPE. */
    private static String[] full() {
        List<String> steps = new ArrayList<>();
        for (int i = 0; i < 16; i++) {
            steps.add("thing jar " + (i + 1) + " 7");
            steps.add(i < 6 ? "house 2 14 0 7" : "appraise " + i + " 999 5");
            steps.add(i < 8 ? "courier 0-999" : "appraise " + i + " 0 5");
        }
        for (int i = 0; i < 15; i++) {
            steps.add("loan 1 " + 9 * i + "+3:0,1,15");
        }
        steps.add("loan 5 995+1:15");
        for (int i = 0; i < 48; i++) {
            steps.add("report " + i % 16 + " " + i + " tear 1 " + (i + 1));
            steps.add("appraise " + i % 3 + " " + i + " 9");
        }
        steps.add("tape sheet 3 3" + " ".repeat(111));
        return steps.toArray(new String[0]);
    }

    private void fresh() {
        book = new Book();
        model = new Model();
        for (String step : told) {
            String[] words = step.split(" ", 4);
            if (words[0].equals("appraise")) {
                book.appraise(number(words[1]), number(words[2]), number(words[3]));
                model.appraise(number(words[1]), number(words[2]), number(words[3]));
            } else if (words[0].equals("cancel")) {
                book.cancel(number(words[1]));
                model.cancel(number(words[1]));
            } else {
                int numbers = words[0].equals("loan") ? 1 : words[0].equals("report") ? 2 : 0;
                read(words[0], words, step.split(" ", numbers + 2)[numbers + 1]);
            }
        }
    }

    private static int number(String word) {
        return Integer.parseInt(word);
    }

    private void read(String what, String[] words, String text) {
        tell(text);
        switch (what) {
            case "thing": same(what, book.thing(), model.thing()); break;
            case "house": same(what, book.house(), model.house()); break;
            case "courier": same(what, book.courier(), model.courier()); break;
            case "loan": same(what, book.loan(number(words[1])), model.loan(number(words[1]))); break;
            case "report": report(number(words[1]), number(words[2])); break;
            default: break;
        }
    }

    private void report(int thing, int day) {
        same("report", book.report(thing, day), model.report(thing, day));
    }

    private void tell(String text) {
        Check.tell(book, text);
        model.tape.setLength(0);
        model.tape.append(text);
        model.status = book.status();
    }

    private void same(String call, int got, int want) {
        check.due(call, got, want);
    }

    private void ask(String name, Call call, int a, int b, int c) {
        if (book.callsLeft() < 10) {
            fresh();
        }
        check.about("told " + told.length + " things, " + name + " of " + a + ", " + b + ", " + c);
        int differ = call.of(book, model, a, b, c);
        check.due("both answer alike", differ, 0);
        check.due("status()", book.status(), model.status);
    }

    /** 0 if they are alike; else the answer of the class, or BAD instead of 0. */
    private static int differ(int got, int want) {
        return got == want ? 0 : got == 0 ? BAD : got;
    }

    // ---- calls ----

    private void ofOne(String name, Call call) {
        for (int a : ALL) {
            ask(name, call, a, 0, 0);
        }
    }

    private void ofTwo(String name, Call call) {
        for (int a : ALL) {
            for (int b : ALL) {
                ask(name, call, a, b, 0);
            }
        }
    }

    private void ofThree(String name, int[] last, Call call) {
        for (int a : FEW) {
            for (int b : FEW) {
                for (int c : last) {
                    ask(name, call, a, b, c);
                }
            }
        }
    }

    private void ofOneNumber() {
        ofOne("count", (k, m, a, b, c) -> differ(k.count(a), m.count(a)));
        ofOne("parcels", (k, m, a, b, c) -> differ(k.parcels(a), m.parcels(a)));
        ofOne("busy", (k, m, a, b, c) -> differ(k.busy(a), m.busy(a)));
        ofOne("dearest", (k, m, a, b, c) -> differ(k.dearest(a), m.dearest(a)));
        ofOne("charge", (k, m, a, b, c) -> differ(k.charge(a), m.charge(a)));
        ofOne("place", (k, m, a, b, c) -> differ(k.place(), m.place));
        ofOne("fault", (k, m, a, b, c) -> differ(k.fault(), m.fault));
        ofOne("home", (k, m, a, b, c) -> differ(k.home(), m.home()));
    }

    private void ofTwoNumbers() {
        ofTwo("value", (k, m, a, b, c) -> differ(k.value(a, b), m.value(a, b)));
        ofTwo("together", (k, m, a, b, c) -> differ(k.together(a, b), m.together(a, b)));
        ofTwo("where", (k, m, a, b, c) -> differ(k.where(a, b), m.where(a, b)));
        ofTwo("stage", (k, m, a, b, c) -> differ(k.stage(a, b), m.stage(a, b)));
        ofTwo("parcel", (k, m, a, b, c) -> differ(k.parcel(a, b), m.parcel(a, b)));
        ofTwo("weight", (k, m, a, b, c) -> differ(k.weight(a, b), m.weight(a, b)));
        ofTwo("with", (k, m, a, b, c) -> differ(k.with(a, b), m.with(a, b)));
        ofTwo("cost", (k, m, a, b, c) -> differ(k.cost(a, b), m.cost(a, b)));
        ofTwo("harms", (k, m, a, b, c) -> differ(k.harms(a, b), m.harms(a, b)));
        ofTwo("damage", (k, m, a, b, c) -> differ(k.damage(a, b), m.damage(a, b)));
        ofTwo("bearer", (k, m, a, b, c) -> differ(k.bearer(a, b), m.bearer(a, b)));
    }

    private void ofThreeNumbers() {
        ofThree("free", FEW, (k, m, a, b, c) -> differ(k.free(a, b, c), m.free(a, b, c)));
        ofThree("guard", FEW, (k, m, a, b, c) -> differ(k.guard(a, b, c), m.guard(a, b, c)));
        ofThree("ready", FEW, (k, m, a, b, c) -> differ(k.ready(a, b, c), m.ready(a, b, c)));
        ofThree("premium", FEW, (k, m, a, b, c) -> differ(k.premium(a, b, c), m.premium(a, b, c)));
        ofThree("note", FEW, (k, m, a, b, c) -> differ(k.note(a, b, c), m.note(a, b, c)));
        ofThree("letter", FEW, (k, m, a, b, c) -> differ(k.letter(a, b, c), m.letter(a, b, c)));
    }

    /** Of these each may change much, so that each is made of a fresh Book, or told of one that is still good. */
    private void ofTellingNumbers() {
        for (int a : ALL) {
            fresh();
            ask("end", (k, m, x, b, c) -> differ(k.end(x), m.end(x)), a, 0, 0);
            ask("count", (k, m, x, b, c) -> differ(k.count(6), m.count(6)), a, 0, 0);
            ask("thing", (k, m, x, b, c) -> differ(k.thing(), m.thing()), a, 0, 0);
            ask("cancel", (k, m, x, b, c) -> differ(k.cancel(x), m.cancel(x)), a, 0, 0);
            ask("where", (k, m, x, b, c) -> differ(k.where(0, 12), m.where(0, 12)), a, 0, 0);
            tell("600+" + Math.floorMod(a, 302) + ":0,3");
            ask("loan", (k, m, x, b, c) -> differ(k.loan(x), m.loan(x)), a, 0, 0);
            ask("count", (k, m, x, b, c) -> differ(k.count(4), m.count(4)), a, 0, 0);
        }
        fresh();
        for (int a : ALL) {
            for (int b : ALL) {
                tell("sound");
                ask("report", (k, m, x, y, c) -> differ(k.report(x, y), m.report(x, y)), a, b, 0);
            }
        }
        ofThree("appraise", VALUES, (k, m, a, b, c) -> differ(k.appraise(a, b, c), m.appraise(a, b, c)));
    }

    private void feeding() {
        for (int first : ALL) {
            fresh();
            ask("end", (k, m, a, b, c) -> differ(k.end(0), m.end(0)), 0, 0, 0);
            ask("feed", (k, m, a, b, c) -> differ(k.feed(a, -a, a << 8, ~a, a >>> 3), m.feed(a, -a, a << 8, ~a, a >>> 3)), first, 0, 0);
            ask("house", (k, m, a, b, c) -> differ(k.house(), m.house()), first, 0, 0);
            ask("place", (k, m, a, b, c) -> differ(k.place(), m.place), first, 0, 0);
        }
    }
}
