import java.util.ArrayList;
import java.util.Comparator;
import java.util.HashMap;
import java.util.List;
import java.util.Map;
import java.util.TreeMap;
import java.util.TreeSet;
import java.util.regex.Matcher;
import java.util.regex.Pattern;

/** The document once more, written another way (sets of days, regular expressions), to hold the class against. */
final class Model {
    static final int BAD = -9999;
    private static final List<String> KINDS = List.of("sheet", "jar", "skin", "cast", "book");
    private static final List<String> SORTS = List.of("tear", "stain", "crack", "loss");
    private static final int[] TIMES = {3, 2, 5, 8};
    private static final Pattern PIECE = Pattern.compile("[a-z]+|[0-9]+|[^ ]", Pattern.DOTALL);
    private static final Pattern THING = Pattern.compile("KNN(nK)*");
    private static final Pattern HOUSE = Pattern.compile("NNNN");
    private static final Pattern COURIER = Pattern.compile("N-N(,N-N)*");
    private static final Pattern LOAN = Pattern.compile("N\\+N:N(,N)*");
    private static final Pattern REPORT = Pattern.compile("s|HNN(,HNN)*");

    record Thing(String kind, int first, int weighs, TreeSet<Integer> bars, TreeMap<Integer, Integer> told,
        TreeMap<Integer, TreeMap<String, Integer>> reports) { }

    record House(int way, int limit, int guard, int rate) { }

    record Courier(String written, TreeSet<Integer> days) { }

    /** Way and PARCEL -> COURIER in guards. */
    static final class Loan {
        House house;
        TreeSet<Integer> out = new TreeSet<>();
        TreeSet<Integer> stay = new TreeSet<>();
        TreeSet<Integer> back = new TreeSet<>();
        TreeSet<Integer> days = new TreeSet<>();
        List<List<Integer>> parcels = new ArrayList<>();
        Map<String, Integer> guards = new HashMap<>();
        boolean stands = true;

        boolean has(int thing) {
            return parcels.stream().anyMatch(p -> p.contains(thing));
        }

        TreeSet<Integer> way(int way) {
            return way == 0 ? out : back;
        }
    }

    final StringBuilder tape = new StringBuilder();
    final List<Thing> things = new ArrayList<>();
    final List<House> houses = new ArrayList<>();
    final List<Courier> couriers = new ArrayList<>();
    final List<Loan> loans = new ArrayList<>();
    int place = BAD;
    int fault = 0;
    int status = 0;
    private List<String> pieces;

    int no(int why) {
        status = why;
        return BAD;
    }

    int yes(long answer) {
        status = 0;
        return Math.toIntExact(answer);
    }

    // ---- telling ----

    int feed(int... five) {
        if (tape.length() > 100) {
            return no(9);
        }
        for (int next : five) {
            tape.append((char) (next >>> 24)).append((char) (next >>> 16 & 255));
            tape.append((char) (next >>> 8 & 255)).append((char) (next & 255));
        }
        return yes(tape.length());
    }

    int end(int n) {
        if (n < 0 || n > tape.length()) {
            return no(3);
        }
        tape.setLength(n);
        return yes(n);
    }

    private static char code(String piece) {
        if (KINDS.contains(piece)) {
            return 'K';
        }
        if (SORTS.contains(piece)) {
            return 'H';
        }
        if (piece.equals("not") || piece.equals("sound")) {
            return piece.charAt(0);
        }
        if (piece.matches("[0-9]{1,4}")) {
            return 'N';
        }
        return piece.matches("[-+,:]") ? piece.charAt(0) : '?';
    }

    private boolean reads(Pattern grammar) {
        String text = tape.toString();
        tape.setLength(0);
        fault = 0;
        place = BAD;
        pieces = new ArrayList<>();
        StringBuilder codes = new StringBuilder();
        Matcher next = PIECE.matcher(text);
        while (next.find()) {
            pieces.add(next.group());
            codes.append(code(next.group()));
            Matcher so = grammar.matcher(codes);
            if (!so.matches() && !so.hitEnd()) {
                place = next.start();
                return false;
            }
        }
        if (!grammar.matcher(codes).matches()) {
            place = text.length();
            return false;
        }
        return true;
    }

    private int n(int piece) {
        return Integer.parseInt(pieces.get(piece));
    }

    private int faulty(int number) {
        fault = number;
        return no(4);
    }

    int thing() {
        if (!reads(THING)) {
            return no(2);
        }
        if (n(1) < 1 || n(2) < 1 || n(2) > 999) {
            return faulty(1);
        }
        TreeSet<Integer> bars = new TreeSet<>();
        for (int i = 4; i < pieces.size(); i += 2) {
            if (!bars.add(KINDS.indexOf(pieces.get(i)))) {
                return faulty(2);
            }
        }
        if (things.size() == 16) {
            return no(9);
        }
        things.add(new Thing(pieces.get(0), n(1), n(2), bars, new TreeMap<>(), new TreeMap<>()));
        return yes(things.size() - 1);
    }

    int house() {
        if (!reads(HOUSE)) {
            return no(2);
        }
        House told = new House(n(0), n(1), n(2), n(3));
        if (told.way < 1 || told.way > 30 || told.limit == 0 || told.rate == 0 || told.rate > 99) {
            return faulty(3);
        }
        if (houses.size() == 6) {
            return no(9);
        }
        houses.add(told);
        return yes(houses.size() - 1);
    }

    int courier() {
        if (!reads(COURIER)) {
            return no(2);
        }
        TreeSet<Integer> days = new TreeSet<>();
        List<String> written = new ArrayList<>();
        for (int i = 0; i < pieces.size(); i += 4) {
            if (n(i) > n(i + 2) || n(i + 2) > 999 || (i > 0 && n(i) <= n(i - 2))) {
                return faulty(4);
            }
            for (int day = n(i); day <= n(i + 2); day++) {
                days.add(day);
            }
            written.add(n(i) + "-" + n(i + 2));
        }
        if (couriers.size() == 8) {
            return no(9);
        }
        couriers.add(new Courier(String.join(", ", written), days));
        return yes(couriers.size() - 1);
    }

    int report(int thing, int day) {
        if (bad(thing, things) || badDay(day)) {
            tape.setLength(0);
            return no(bad(thing, things) ? 1 : 3);
        }
        if (!reads(REPORT)) {
            return no(2);
        }
        TreeMap<String, Integer> harms = new TreeMap<>();
        boolean twice = false;
        for (int i = 0; i + 2 < pieces.size(); i += 4) {
            if (n(i + 1) > 99 || n(i + 2) < 1 || n(i + 2) > 99) {
                return faulty(9);
            }
            String key = String.format("%d %02d", SORTS.indexOf(pieces.get(i)), n(i + 1));
            twice |= harms.put(key, n(i + 2)) != null;
        }
        if (twice) {
            return faulty(10);
        }
        Thing of = things.get(thing);
        if (of.reports.containsKey(day)) {
            return faulty(11);
        }
        if (reports() == 48) {
            return no(9);
        }
        of.reports.put(day, harms);
        return yes(of.reports.size());
    }

    int appraise(int thing, int day, int value) {
        if (bad(thing, things)) {
            return no(1);
        }
        if (badDay(day) || value < 1 || value > 9999) {
            return no(3);
        }
        Thing of = things.get(thing);
        int told = things.stream().mapToInt(t -> t.told.size()).sum();
        if (told == 48 && !of.told.containsKey(day)) {
            return no(9);
        }
        int was = valueOf(thing, day);
        of.told.put(day, value);
        return yes(was);
    }

    int loan(int house) {
        if (bad(house, houses)) {
            tape.setLength(0);
            return no(1);
        }
        if (!reads(LOAN)) {
            return no(2);
        }
        Loan made = new Loan();
        made.house = houses.get(house);
        List<Integer> lent = new ArrayList<>();
        for (int i = 4; i < pieces.size(); i += 2) {
            lent.add(n(i));
        }
        fault = faultOf(made, lent, n(0), n(2));
        if (fault != 0) {
            return no(4);
        }
        if (loans.size() == 16) {
            return no(9);
        }
        loans.add(made);
        return yes(loans.size() - 1);
    }

    private int faultOf(Loan made, List<Integer> lent, int s, int t) {
        int way = made.house.way;
        if (t < 1 || t > 300 || s + 2 * way + t - 1 > 999) {
            return 5;
        }
        for (int i = 0; i < lent.size(); i++) {
            if (lent.get(i) >= things.size() || (i > 0 && lent.get(i) <= lent.get(i - 1))) {
                return 5;
            }
        }
        for (int day = s; day < s + 2 * way + t; day++) {
            made.days.add(day);
            (day < s + way ? made.out : day < s + way + t ? made.stay : made.back).add(day);
        }
        for (int thing : lent) {
            for (int day : made.days) {
                if (whereIs(thing, day) >= 0) {
                    return 6;
                }
            }
        }
        if (lent.stream().anyMatch(i -> things.get(i).weighs > made.house.limit)) {
            return 7;
        }
        pack(made, lent);
        return guarded(made, 0) && guarded(made, 1) ? 0 : 8;
    }

    private void pack(Loan made, List<Integer> lent) {
        List<Integer> order = new ArrayList<>(lent);
        order.sort(Comparator.comparing((Integer i) -> -things.get(i).weighs).thenComparing(i -> i));
        for (int thing : order) {
            List<Integer> into = null;
            for (List<Integer> parcel : made.parcels) {
                boolean fits = weigh(parcel) + things.get(thing).weighs <= made.house.limit;
                if (into == null && fits && parcel.stream().allMatch(other -> goes(thing, other))) {
                    into = parcel;
                }
            }
            if (into == null) {
                into = new ArrayList<>();
                made.parcels.add(into);
            }
            into.add(thing);
        }
    }

    private boolean guarded(Loan made, int way) {
        int first = made.way(way).first();
        List<Integer> wanting = new ArrayList<>();
        for (int p = 0; p < made.parcels.size(); p++) {
            if (worth(made.parcels.get(p), first) > made.house.guard) {
                wanting.add(p);
            }
        }
        wanting.sort(Comparator.comparing((Integer p) -> -worth(made.parcels.get(p), first)).thenComparing(p -> p));
        for (int p : wanting) {
            int best = -1;
            for (int c = 0; c < couriers.size(); c++) {
                TreeSet<Integer> busy = busyDays(c, made);
                boolean can = couriers.get(c).days.containsAll(made.way(way));
                for (int day : made.way(way)) {
                    can &= !busy.contains(day);
                }
                if (can && (best < 0 || busy.size() < busyDays(best, made).size())) {
                    best = c;
                }
            }
            if (best < 0) {
                return false;
            }
            made.guards.put(way + " " + p, best);
        }
        return true;
    }

    int cancel(int loan) {
        if (gone(loan)) {
            return no(1);
        }
        loans.get(loan).stands = false;
        return yes(loans.stream().filter(l -> l.stands).count());
    }

    // ---- what follows from it ----

    static boolean bad(int number, List<?> all) {
        return number < 0 || number >= all.size();
    }

    static boolean badDay(int day) {
        return day < 0 || day > 999;
    }

    boolean gone(int loan) {
        return bad(loan, loans) || !loans.get(loan).stands;
    }

    int reports() {
        return things.stream().mapToInt(t -> t.reports.size()).sum();
    }

    int valueOf(int thing, int day) {
        Map.Entry<Integer, Integer> latest = things.get(thing).told.floorEntry(day);
        return latest == null ? things.get(thing).first : latest.getValue();
    }

    boolean goes(int one, int other) {
        Thing a = things.get(one);
        Thing b = things.get(other);
        return !a.bars.contains(KINDS.indexOf(b.kind)) && !b.bars.contains(KINDS.indexOf(a.kind));
    }

    int weigh(List<Integer> parcel) {
        return parcel.stream().mapToInt(i -> things.get(i).weighs).sum();
    }

    int worth(List<Integer> parcel, int day) {
        return parcel.stream().mapToInt(i -> valueOf(i, day)).sum();
    }

    int whereIs(int thing, int day) {
        for (int i = 0; i < loans.size(); i++) {
            Loan loan = loans.get(i);
            if (loan.stands && loan.has(thing) && loan.days.contains(day)) {
                return i;
            }
        }
        return -1;
    }

    /** The DAYS on which the COURIER is BUSY, for the LOANS that STAND and for the one being made. */
    TreeSet<Integer> busyDays(int courier, Loan made) {
        TreeSet<Integer> busy = new TreeSet<>();
        List<Loan> all = new ArrayList<>(loans);
        if (made != null) {
            all.add(made);
        }
        for (Loan loan : all) {
            loan.guards.forEach((key, who) -> {
                if (loan.stands && who == courier) {
                    busy.addAll(loan.way(key.charAt(0) - '0'));
                }
            });
        }
        return busy;
    }

    int harmsOf(int thing, int day) {
        Map.Entry<Integer, TreeMap<String, Integer>> report = things.get(thing).reports.floorEntry(day);
        return report == null ? 0 : report.getValue().size();
    }

    long costOf(Loan loan, int day) {
        long sum = 0;
        for (int p = 0; p < loan.parcels.size(); p++) {
            for (int thing : loan.parcels.get(p)) {
                long w = loan.stay.contains(day) ? 1
                    : loan.guards.containsKey((loan.out.contains(day) ? 0 : 1) + " " + p) ? 2 : 3;
                sum += (long) valueOf(thing, day) * loan.house.rate * w * (10 + harmsOf(thing, day));
            }
        }
        return loan.days.contains(day) ? sum : 0;
    }

    long damageOf(int thing, int day) {
        Thing of = things.get(thing);
        Map.Entry<Integer, TreeMap<String, Integer>> ahead = of.reports.lowerEntry(day);
        if (ahead == null) {
            return 0;
        }
        long sum = 0;
        for (Map.Entry<String, Integer> harm : of.reports.get(day).entrySet()) {
            int grown = harm.getValue() - ahead.getValue().getOrDefault(harm.getKey(), 0);
            sum += grown > 0 ? (long) grown * TIMES[harm.getKey().charAt(0) - '0'] : 0;
        }
        return sum * valueOf(thing, day);
    }

    int bearerOf(int thing, int day) {
        Integer ahead = things.get(thing).reports.lowerKey(day);
        int best = -1;
        for (int i = 0; ahead != null && i < loans.size(); i++) {
            Loan loan = loans.get(i);
            int days = loan.days.subSet(ahead, false, day, true).size();
            if (!loan.stands || !loan.has(thing) || days == 0) {
                continue;
            }
            int most = best < 0 ? 0 : loans.get(best).days.subSet(ahead, false, day, true).size();
            if (days > most || (days == most && loan.days.first() < loans.get(best).days.first())) {
                best = i;
            }
        }
        return best;
    }

    long borneBy(int bearer) {
        long sum = 0;
        for (int thing = 0; thing < things.size(); thing++) {
            for (int day : things.get(thing).reports.keySet()) {
                sum += bearerOf(thing, day) == bearer ? damageOf(thing, day) : 0;
            }
        }
        return sum / 1000;
    }

    // ---- asking ----

    int count(int what) {
        switch (what) {
            case 0: return yes(things.size());
            case 1: return yes(houses.size());
            case 2: return yes(couriers.size());
            case 3: return yes(loans.size());
            case 4: return yes(loans.stream().filter(l -> l.stands).count());
            case 5: return yes(reports());
            case 6: return yes(tape.length());
            default: return no(3);
        }
    }

    int value(int thing, int day) {
        return bad(thing, things) ? no(1) : badDay(day) ? no(3) : yes(valueOf(thing, day));
    }

    int together(int one, int other) {
        return bad(one, things) || bad(other, things) ? no(1) : yes(goes(one, other) ? 1 : 0);
    }

    int where(int thing, int day) {
        return bad(thing, things) ? no(1) : badDay(day) ? no(3) : yes(whereIs(thing, day));
    }

    int free(int thing, int day, int days) {
        if (bad(thing, things)) {
            return no(1);
        }
        if (badDay(day) || days < 1 || days > 1000) {
            return no(3);
        }
        TreeSet<Integer> open = new TreeSet<>();
        for (int d = 0; d < 1000; d++) {
            open.add(d);
        }
        for (Loan loan : loans) {
            if (loan.stands && loan.has(thing)) {
                open.removeAll(loan.days);
            }
        }
        return yes(firstRow(open, day, days));
    }

    private static int firstRow(TreeSet<Integer> open, int day, int days) {
        for (int from = day; from + days <= 1000; from++) {
            if (open.subSet(from, from + days).size() == days) {
                return from;
            }
        }
        return -1;
    }

    int stage(int loan, int day) {
        if (gone(loan)) {
            return no(1);
        }
        if (badDay(day)) {
            return no(3);
        }
        Loan of = loans.get(loan);
        return yes(of.out.contains(day) ? 1 : of.stay.contains(day) ? 2 : of.back.contains(day) ? 3 : 0);
    }

    int parcels(int loan) {
        return gone(loan) ? no(1) : yes(loans.get(loan).parcels.size());
    }

    int parcel(int loan, int thing) {
        if (gone(loan)) {
            return no(1);
        }
        for (int p = 0; p < loans.get(loan).parcels.size(); p++) {
            if (loans.get(loan).parcels.get(p).contains(thing)) {
                return yes(p);
            }
        }
        return no(1);
    }

    int weight(int loan, int parcel) {
        return gone(loan) || bad(parcel, loans.get(loan).parcels) ? no(1)
            : yes(weigh(loans.get(loan).parcels.get(parcel)));
    }

    int guard(int loan, int parcel, int way) {
        return gone(loan) || bad(parcel, loans.get(loan).parcels) ? no(1)
            : way != 0 && way != 1 ? no(3) : yes(loans.get(loan).guards.getOrDefault(way + " " + parcel, -1));
    }

    int busy(int courier) {
        return bad(courier, couriers) ? no(1) : yes(busyDays(courier, null).size());
    }

    int with(int courier, int day) {
        if (bad(courier, couriers)) {
            return no(1);
        }
        if (badDay(day)) {
            return no(3);
        }
        for (int i = 0; i < loans.size(); i++) {
            for (Map.Entry<String, Integer> guard : loans.get(i).guards.entrySet()) {
                boolean goes = loans.get(i).way(guard.getKey().charAt(0) - '0').contains(day);
                if (loans.get(i).stands && guard.getValue() == courier && goes) {
                    return yes(i);
                }
            }
        }
        return yes(-1);
    }

    int ready(int courier, int day, int days) {
        if (bad(courier, couriers)) {
            return no(1);
        }
        if (badDay(day) || days < 1 || days > 1000) {
            return no(3);
        }
        TreeSet<Integer> open = new TreeSet<>(couriers.get(courier).days);
        open.removeAll(busyDays(courier, null));
        return yes(firstRow(open, day, days));
    }

    int cost(int loan, int day) {
        return gone(loan) ? no(1) : badDay(day) ? no(3) : yes(costOf(loans.get(loan), day));
    }

    int premium(int loan, int a, int b) {
        if (gone(loan)) {
            return no(1);
        }
        if (badDay(a) || badDay(b) || a > b) {
            return no(3);
        }
        long sum = 0;
        for (int day = a; day <= b; day++) {
            sum += costOf(loans.get(loan), day);
        }
        return yes(sum / 10000);
    }

    int dearest(int loan) {
        if (gone(loan)) {
            return no(1);
        }
        Loan of = loans.get(loan);
        return yes(of.days.stream().max(Comparator.comparing((Integer d) -> costOf(of, d)).thenComparing(d -> -d)).get());
    }

    int harms(int thing, int day) {
        return bad(thing, things) ? no(1) : badDay(day) ? no(3) : yes(harmsOf(thing, day));
    }

    int note(int thing, int day, int k) {
        if (bad(thing, things)) {
            return no(1);
        }
        if (badDay(day)) {
            return no(3);
        }
        Map.Entry<Integer, TreeMap<String, Integer>> report = things.get(thing).reports.floorEntry(day);
        if (report == null) {
            return no(1);
        }
        List<String> harms = new ArrayList<>();
        report.getValue().forEach((key, size) -> harms.add(SORTS.get(key.charAt(0) - '0') + " "
            + Integer.parseInt(key.substring(2)) + " " + size));
        return letterOf(harms.isEmpty() ? "sound" : String.join(", ", harms), k);
    }

    private int letterOf(String written, int k) {
        return k < 0 || k >= written.length() ? no(1) : yes(written.charAt(k));
    }

    int damage(int thing, int day) {
        return bad(thing, things) ? no(1) : badDay(day) ? no(3)
            : things.get(thing).reports.containsKey(day) ? yes(damageOf(thing, day)) : no(1);
    }

    int bearer(int thing, int day) {
        return bad(thing, things) ? no(1) : badDay(day) ? no(3)
            : things.get(thing).reports.containsKey(day) ? yes(bearerOf(thing, day)) : no(1);
    }

    int charge(int loan) {
        return gone(loan) ? no(1) : yes(borneBy(loan));
    }

    int home() {
        return Math.toIntExact(borneBy(-1));
    }

    int letter(int what, int number, int k) {
        if (what < 0 || what > 2) {
            return no(3);
        }
        if (bad(number, what == 0 ? things : what == 1 ? houses : couriers)) {
            return no(1);
        }
        if (what == 2) {
            return letterOf(couriers.get(number).written, k);
        }
        if (what == 1) {
            House of = houses.get(number);
            return letterOf(of.way + " " + of.limit + " " + of.guard + " " + of.rate, k);
        }
        Thing of = things.get(number);
        StringBuilder written = new StringBuilder(of.kind + " " + of.first + " " + of.weighs);
        of.bars.forEach(kind -> written.append(" not ").append(KINDS.get(kind)));
        return letterOf(written.toString(), k);
    }
}
