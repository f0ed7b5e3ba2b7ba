/** Terms 1 and promises 2, 3 and 11: for each sentence about texts that names an edge a test on both sides of it. */
public final class TextEdgeTest {
    private static final int BAD = Check.BAD;
    private static final int ROOM = 120;
    private static final int FULL = 0x20202020;
    private static final String[] KINDS = {"sheet", "jar", "skin", "cast", "book"};
    private static final String[] SORTS = {"tear", "stain", "crack", "loss"};
    private static final String[] ALL_WORDS = {"not", "sound", "sheet", "jar", "skin", "cast", "book", "tear", "stain",
        "crack", "loss"};
    /** A right text of each kind, with a | between each two PIECES. */
    private static final String[][] RIGHT = {{"thing", "jar|12|5"}, {"thing", "skin|1|999|not|book|not|sheet"},
        {"house", "2|100|5|9"}, {"courier", "0|-|9"}, {"courier", "0|-|9|,|10|-|12"}, {"loan", "10|+|5|:|0"},
        {"loan", "10|+|5|:|0|,|1"}, {"report", "sound"}, {"report", "tear|1|2"}, {"report", "tear|1|2|,|loss|3|4"}};
    private static final Check check = new Check();

    public static void main(String[] args) {
        tapeHasRoomForBytes();
        refusedFeedLeavesTheTape();
        bytesComeInOrder();
        bytesComeBehindThose();
        endKeepsTheFirst();
        refusedEndLeavesTheTape();
        blanksAre32();
        bytesOfWords();
        bytesOfNumbers();
        bytesOfMarks();
        numbersHaveFourDigits();
        piecesAreAsLongAsTheyCanBe();
        wordsStandWholeOrNot();
        wordsStandInTheirPlaces();
        blanksMayStandAnywhere();
        noBlanksAreWanted();
        fullTape();
        notsAnyNumberOfTimes();
        oneOrMoreSpans();
        oneOrMoreThingsLent();
        soundOrHarms();
        emptyTexts();
        somethingLacks();
        nothingMayStandBehind();
        firstPieceThatCannotStand();
        placeStays();
        check.close();
    }

    /** Two THINGS and a HOUSE, so that each of the five calls can read. */
    private static Book book() {
        Book book = new Book();
        Check.thing(book, "jar 1 1");
        Check.thing(book, "jar 1 1");
        Check.house(book, "1 999 9999 1");
        return book;
    }

    /** The text is right, whatever FAULT it has. */
    private static void right(String what, String text) {
        Book book = book();
        String call = what + "() of '" + text + "'";
        Check.read(book, what, text);
        check.due("refused by a 2 is " + call, book.status() == 2 ? 1 : 0, 0);
        check.due("place() behind " + call, book.place(), BAD);
        check.due("tape behind " + call, book.count(6), 0);
    }

    private static void taken(String what, String text) {
        Book book = book();
        Check.read(book, what, text);
        check.due("status() behind " + what + "() of '" + text + "'", book.status(), 0);
        check.due("place() behind " + what + "() of '" + text + "'", book.place(), BAD);
    }

    private static void wrong(String what, String text, int place) {
        Book book = book();
        check.wrong(book, what + "() of '" + text + "'", Check.read(book, what, text), place);
    }

    private static int feedBlanks(Book book) {
        return book.feed(FULL, FULL, FULL, FULL, FULL);
    }

    private static Book withTape(int size) {
        Book book = new Book();
        for (int fed = 0; fed < size; fed += 20) {
            feedBlanks(book);
        }
        book.end(size);
        return book;
    }

    // ---- the TAPE ----

    private static void tapeHasRoomForBytes() {
        check.about("'The TAPE has up to 120 bytes', '9: these would be more than 120'");
        for (int size = 0; size <= ROOM; size++) {
            Book book = withTape(size);
            check.due("count(6)", book.count(6), size);
            if (size <= 100) {
                check.answered(book, "feed to a tape of " + size, feedBlanks(book), size + 20);
            } else {
                check.refused(book, "feed to a tape of " + size, feedBlanks(book), 9);
            }
        }
    }

    private static void refusedFeedLeavesTheTape() {
        check.about("a refused feed() changes nothing else");
        for (int size : new int[] {101, 119, 120}) {
            Book book = new Book();
            Check.tell(book, "jar 5 7" + " ".repeat(size - 7));
            check.refused(book, "feed", book.feed(0x23232323, 0x23232323, 0x23232323, 0x23232323, 0x23232323), 9);
            check.due("place()", book.place(), BAD);
            check.due("count(6)", book.count(6), size);
            check.taken(book, "thing()", book.thing(), 0);
        }
        Book book = new Book();
        Check.tell(book, " ".repeat(ROOM - 1) + "#");
        check.refused(book, "feed", feedBlanks(book), 9);
        check.wrong(book, "house() of the last byte", book.house(), ROOM - 1);
    }

    private static void bytesComeInOrder() {
        check.about("'The twenty bytes of five ints, the highest of each first'");
        for (int at = 0; at < 20; at++) {
            for (int sign : new int[] {0, 0x23, 0x7F, 0x80, 0xFF}) {
                int[] five = {FULL, FULL, FULL, FULL, FULL};
                int shift = 24 - 8 * (at % 4);
                five[at / 4] = five[at / 4] & ~(255 << shift) | sign << shift;
                Book book = new Book();
                check.answered(book, "feed", book.feed(five[0], five[1], five[2], five[3], five[4]), 20);
                check.wrong(book, "byte " + sign + " at " + at, book.house(), at);
            }
        }
        Book all = new Book();
        check.answered(all, "feed of the least", all.feed(Integer.MIN_VALUE, -1, Integer.MAX_VALUE, 0, -1), 20);
        check.wrong(all, "thing()", all.thing(), 0);
    }

    private static void bytesComeBehindThose() {
        check.about("'come to the TAPE: how many it has'");
        for (int row = 0; row < 6; row++) {
            Book book = new Book();
            for (int i = 0; i < 6; i++) {
                int sign = i == row ? 0x20202023 : FULL;
                check.answered(book, "feed", book.feed(FULL, FULL, FULL, FULL, sign), 20 * i + 20);
            }
            check.wrong(book, "a byte of row " + row, book.thing(), 20 * row + 19);
        }
    }

    private static void endKeepsTheFirst() {
        check.about("'The TAPE keeps its first n bytes: n. 3: n is below 0 or above what it has'");
        for (int size : new int[] {0, 1, 20, 119, 120}) {
            for (int n : new int[] {Integer.MIN_VALUE, -1, size + 1, Integer.MAX_VALUE}) {
                Book book = withTape(size);
                check.refused(book, "end(" + n + ") of " + size, book.end(n), 3);
                check.due("count(6)", book.count(6), size);
            }
            for (int n : new int[] {0, size / 2, size}) {
                Book book = withTape(size);
                check.answered(book, "end(" + n + ") of " + size, book.end(n), n);
                check.due("count(6)", book.count(6), n);
            }
        }
        Book book = new Book();
        Check.tell(book, "jar 5 7#");
        check.answered(book, "end(7)", book.end(7), 7);
        check.taken(book, "thing() of 'jar 5 7'", book.thing(), 0);
        Check.tell(book, "jar 5 #");
        book.end(6);
        book.feed(0x38202020, FULL, FULL, FULL, FULL);
        check.taken(book, "thing() of 'jar 5 8'", book.thing(), 1);
        Check.tell(book, "jar 5 7");
        check.answered(book, "end(0)", book.end(0), 0);
        check.wrong(book, "thing() of nothing", book.thing(), 0);
    }

    private static void refusedEndLeavesTheTape() {
        check.about("a refused end() changes nothing else");
        for (int n : new int[] {-1, 8, 20, 121}) {
            Book book = new Book();
            Check.tell(book, "jar 5 7");
            check.refused(book, "end(" + n + ")", book.end(n), 3);
            check.due("count(6)", book.count(6), 7);
            check.taken(book, "thing()", book.thing(), 0);
        }
    }

    // ---- bytes ----

    private static boolean between(int sign, char least, char most) {
        return sign >= least && sign <= most;
    }

    private static void blanksAre32() {
        check.about("'BLANKS are 32', 'at a byte that begins none'");
        for (int sign = 0; sign < 256; sign++) {
            String one = String.valueOf((char) sign);
            if (sign == 32) {
                taken("thing", one + "jar 5 7");
                taken("thing", "jar 5" + one + "7");
                taken("thing", "jar 5 7" + one);
                continue;
            }
            wrong("thing", one + "jar 5 7", 0);
            wrong("thing", "jar 5" + one + "7", between(sign, '0', '9') ? 7 : 5);
            if (between(sign, '0', '9')) {
                taken("thing", "jar 5 7" + one);
            } else {
                wrong("thing", "jar 5 7" + one, 7);
            }
        }
    }

    private static void bytesOfWords() {
        check.about("'WORDS: rows of a .. z'");
        for (int sign = 0; sign < 256; sign++) {
            // what splits the row leaves no KIND ahead of it; what does not makes a longer WORD that is none
            wrong("thing", "ja" + (char) sign + "r 5 7", 0);
            if (sign == 32) {
                taken("thing", "jar" + (char) sign + " 5 7");
            } else if (between(sign, '0', '9')) {
                wrong("thing", "jar" + (char) sign + " 5 7", 7);
            } else {
                wrong("thing", "jar" + (char) sign + " 5 7", between(sign, 'a', 'z') ? 0 : 3);
            }
        }
    }

    private static void bytesOfNumbers() {
        check.about("'NUMBERS: rows of digits'");
        for (char digit = '0'; digit <= '9'; digit++) {
            taken("courier", "0-" + digit);
        }
        for (char sign : new char[] {'/', ':', ' ' - 1, 'a', 0xB2, 0xB9}) {
            wrong("courier", "0-" + sign, 2);
        }
    }

    private static void bytesOfMarks() {
        check.about("'MARKS: each of the bytes + - , : by itself'");
        for (int sign = 0; sign < 256; sign++) {
            if (sign == ' ' || between(sign, '0', '9')) {
                continue;
            }
            String one = String.valueOf((char) sign);
            if (sign != '-') {
                wrong("courier", "0" + one + "9", 1);
            }
            if (sign != ',') {
                wrong("courier", "0-9" + one + "10-12", 3);
                wrong("loan", "10+5:0" + one + "1", 6);
                wrong("report", "tear 0 1" + one + "tear 1 1", 8);
            }
            if (sign != '+') {
                wrong("loan", "10" + one + "5:0", 2);
            }
            if (sign != ':') {
                wrong("loan", "10+5" + one + "0", 4);
            }
        }
        // two of them are two PIECES, and the second can't stand
        wrong("courier", "0--9", 2);
        wrong("courier", "0-9,,10-12", 4);
        wrong("loan", "10++5:0", 3);
        wrong("loan", "10+5::0", 5);
    }

    // ---- PIECES ----

    private static void numbersHaveFourDigits() {
        check.about("'rows of digits, 4 at most', 'a NUMBER of more digits .. can't stand anywhere'");
        String[][] slots = {{"thing", "jar ? 7"}, {"thing", "jar 7 ?"}, {"thing", "jar 7 ? not book"},
            {"house", "? 2 3 4"}, {"house", "1 ? 3 4"}, {"house", "1 2 ? 4"}, {"house", "1 2 3 ?"},
            {"courier", "?-5"}, {"courier", "0-?"}, {"courier", "0-0,?-5"}, {"courier", "0-0,1-?"},
            {"loan", "?+5:1"}, {"loan", "0+?:1"}, {"loan", "0+5:?"}, {"loan", "0+5:0,?"},
            {"report", "tear ? 7"}, {"report", "tear 7 ?"}, {"report", "loss 1 1,tear ? 7"}, {"report", "loss 1 1,tear 7 ?"}};
        for (String[] slot : slots) {
            int place = slot[1].indexOf('?');
            for (String number : new String[] {"1", "01", "001", "0001"}) {
                taken(slot[0], slot[1].replace("?", number));
            }
            for (String number : new String[] {"0", "9", "10", "99", "100", "999", "1000", "9999", "0000"}) {
                right(slot[0], slot[1].replace("?", number));
            }
            for (String number : new String[] {"00001", "10000", "99999", "000001", "12345678901234567890", "1".repeat(40)}) {
                wrong(slot[0], slot[1].replace("?", number), place);
            }
        }
        wrong("house", "1 2 3 4294967297", 6);
        wrong("house", "0".repeat(ROOM), 0);
    }

    private static void piecesAreAsLongAsTheyCanBe() {
        check.about("'WORDS and NUMBERS are each as long as they can be'");
        wrong("house", "1234 5678", 9);
        wrong("house", "12345678", 0);
        wrong("house", "12 3 4567", 9);
        taken("house", "1 23 456 7");
        wrong("thing", "jarjar 5 7", 0);
        wrong("thing", "jar 5 7 notbook", 8);
        wrong("thing", "jar 5 7 not booknot jar", 12);
        taken("thing", "jar 5 7 not book not jar");
        wrong("report", "tear 1 12345", 7);
        wrong("report", "soundsound", 0);
        wrong("courier", "0-00005", 2);
        // a WORD ends where a NUMBER begins, and a NUMBER where a WORD does
        taken("thing", "jar5 7not book");
        taken("report", "tear1 2,loss1 2");
        wrong("thing", "5jar 7", 0);
    }

    private static void wordsStandWholeOrNot() {
        check.about("'a WORD that is none of not, sound, a KIND, a SORT can't stand anywhere'");
        for (String word : ALL_WORDS) {
            String cut = word.substring(0, word.length() - 1);
            String late = word.substring(1);
            String high = word.substring(0, 1).toUpperCase() + late;
            for (String other : new String[] {cut, late, word + "s", "s" + word, word + word, high}) {
                wrong("thing", other + " 5 7", 0);
                wrong("thing", "jar 5 7 not " + other, 12);
                wrong("report", other + " 5 7", 0);
                wrong("report", "loss 1 1," + other + " 5 7", 9);
                wrong("house", "1 2 3 4 " + other, 8);
            }
            // the last letter may still be another one: then it is another WORD
            String next = cut + (char) (word.charAt(cut.length()) == 'z' ? 'a' : word.charAt(cut.length()) + 1);
            wrong("thing", next + " 5 7", 0);
            wrong("report", next + " 5 7", 0);
        }
    }

    private static boolean isOneOf(String word, String[] words) {
        for (String one : words) {
            if (one.equals(word)) {
                return true;
            }
        }
        return false;
    }

    private static void holds(boolean stands, String what, String text, int place) {
        if (stands) {
            taken(what, text);
        } else {
            wrong(what, text, place);
        }
    }

    private static void wordsStandInTheirPlaces() {
        check.about("'a KIND is sheet, jar, skin, cast, or book', 'a SORT is tear, stain, crack, or loss'");
        for (String word : ALL_WORDS) {
            boolean isKind = isOneOf(word, KINDS);
            boolean isSort = isOneOf(word, SORTS);
            holds(isKind, "thing", word + " 5 7", 0);
            holds(isKind, "thing", "jar 5 7 not " + word, 12);
            holds(isSort, "report", word + " 5 7", word.equals("sound") ? 6 : 0);
            holds(isSort, "report", "tear 1 1," + word + " 5 7", 9);
            holds(word.equals("sound"), "report", word, isSort ? word.length() : 0);
            wrong("thing", "jar 5 7 " + word, word.equals("not") ? 11 : 8);
            wrong("house", word + " 1 2 3", 0);
            wrong("courier", word + "-5", 0);
            wrong("loan", "0+5:" + word, 4);
        }
    }

    private static void blanksMayStandAnywhere() {
        check.about("'there may be any BLANKS ahead of and behind each PIECE'");
        for (String[] text : RIGHT) {
            String[] pieces = text[1].split("\\|");
            for (int many : new int[] {1, 2, 7}) {
                String blanks = " ".repeat(many);
                taken(text[0], blanks + String.join(blanks, pieces) + blanks);
            }
            for (int gap = 0; gap <= pieces.length; gap++) {
                taken(text[0], filled(pieces, gap, ROOM));
            }
        }
    }

    /** The PIECES with one BLANK between each two, and as many more in one gap as make it so long. */
    private static String filled(String[] pieces, int gap, int length) {
        String text = String.join(" ", pieces);
        String more = " ".repeat(length - text.length());
        StringBuilder full = new StringBuilder(gap == 0 ? more : "");
        for (int i = 0; i < pieces.length; i++) {
            full.append(i > 0 ? " " : "").append(pieces[i]).append(gap == i + 1 ? more : "");
        }
        return full.toString();
    }

    private static void noBlanksAreWanted() {
        check.about("'and none are wanted'");
        taken("thing", "jar12 5");
        taken("thing", "jar1 9not book");
        taken("courier", "0-9,10-12,13-13");
        taken("loan", "10+5:0,1");
        taken("report", "tear1 2,loss3 4,crack5 6,stain7 8");
        taken("house", "1 2 3 4");
        wrong("house", "123 4", 5);
    }

    private static void fullTape() {
        check.about("a full TAPE is read to its last byte");
        for (String[] text : RIGHT) {
            String bare = text[1].replace("|", " ");
            taken(text[0], " ".repeat(ROOM - bare.length()) + bare);
            wrong(text[0], bare + " ".repeat(ROOM - 1 - bare.length()) + "#", ROOM - 1);
            wrong(text[0], " ".repeat(ROOM), ROOM);
        }
        wrong("thing", "jar 5" + " ".repeat(ROOM - 5), ROOM);
        wrong("thing", "#".repeat(ROOM), 0);
        wrong("courier", "0-9" + " ".repeat(ROOM - 4) + ",", ROOM);
        wrong("thing", "a".repeat(ROOM), 0);
        wrong("report", "-".repeat(ROOM), 0);
        // as many PIECES as bytes
        wrong("loan", "1+".repeat(ROOM / 2), 3);
        wrong("courier", "0-,".repeat(ROOM / 3), 2);
    }

    // ---- how often ----

    private static void notsAnyNumberOfTimes() {
        check.about("'behind it any number of times (also none) not KIND'");
        StringBuilder text = new StringBuilder("jar 5 7");
        for (int many = 0; many <= 5; many++) {
            taken("thing", text.toString());
            wrong("thing", text + " not", text.length() + 4);
            wrong("thing", text + " not not jar", text.length() + 5);
            text.append(" not ").append(KINDS[many % 5]);
        }
        // more of them can't be without a FAULT, but are read
        Book book = book();
        String most = "jar1 1" + "not jar ".repeat(14);
        check.faulty(book, "fourteen nots", Check.thing(book, most), 2);
        wrong("thing", most + "no", ROOM - 2);
    }

    private static void oneOrMoreSpans() {
        check.about("'A COURIER is one or more SPANS, with , between each two'");
        StringBuilder text = new StringBuilder();
        for (int many = 1; many <= 23; many++) {
            text.append(many > 1 ? "," : "").append(many - 1).append("-").append(many - 1);
            taken("courier", text.toString());
            wrong("courier", text + ",", text.length() + 1);
        }
        check.due("bytes of 23 spans", text.length(), 117);
        Book book = book();
        check.answered(book, "23 spans", Check.courier(book, text.toString()), 0);
        check.answered(book, "day 22", book.ready(0, 0, 23), 0);
        check.answered(book, "day 23", book.ready(0, 23, 1), -1);
        // thirty: the most that a TAPE has, and all are read
        check.faulty(book, "30 spans", Check.courier(book, "0-0" + ",1-1".repeat(29)), 4);
        wrong("courier", "0-0" + ",1-1".repeat(29) + ",", ROOM);
        wrong("courier", "0-0" + ",1-1".repeat(28) + ",1:1", 117);
    }

    private static void oneOrMoreThingsLent() {
        check.about("'A LOAN is s + t : n, behind it any number of times (also none) , n'");
        Book book = new Book();
        Check.house(book, "1 9999 9999 1");
        StringBuilder text = new StringBuilder("0+1:");
        for (int many = 1; many <= 16; many++) {
            Check.thing(book, "jar 1 1");
            text.append(many > 1 ? "," : "").append(many - 1);
            check.taken(book, many + " things", Check.loan(book, 0, text.toString()), many - 1);
            check.due("weight", book.weight(many - 1, 0), many);
            book.cancel(many - 1);
        }
        wrong("loan", "0+1:", 4);
        wrong("loan", "0+1:0,", 6);
        wrong("loan", "0+1", 3);
        // 58: the most that a TAPE has, and all are read
        check.faulty(book, "58 things", Check.loan(book, 0, "0+1:0" + ",0".repeat(57)), 5);
        wrong("loan", "0+1:0" + ",0".repeat(57) + ",", ROOM);
        wrong("loan", "0+1:0" + ",0".repeat(56) + ",-", 118);
    }

    private static void soundOrHarms() {
        check.about("'A REPORT is sound, or one or more HARMS, with , between each two'");
        StringBuilder text = new StringBuilder();
        for (int many = 1; many <= 15; many++) {
            text.append(many > 1 ? "," : "").append(many <= 10 ? "tear" : "loss").append((many - 1) % 10).append(" 1");
            Book book = book();
            check.taken(book, many + " harms", Check.report(book, 0, 5, text.toString()), 1);
            check.answered(book, "harms(0, 5)", book.harms(0, 5), many);
        }
        check.due("bytes of 15 harms", text.length(), 119);
        wrong("report", text + ",", ROOM);
        Book book = book();
        check.taken(book, "sound", Check.report(book, 0, 5, "sound"), 1);
        check.answered(book, "harms(0, 5)", book.harms(0, 5), 0);
        wrong("report", "sound,tear 1 1", 5);
        wrong("report", "tear 1 1,sound", 9);
        wrong("report", "sound sound", 6);
    }

    // ---- where it is WRONG ----

    private static void emptyTexts() {
        check.about("'where something lacks, at the TAPE's length', of empty texts");
        for (String what : new String[] {"thing", "house", "courier", "loan", "report"}) {
            for (int many = 0; many <= ROOM; many += 20) {
                wrong(what, " ".repeat(many), many);
            }
            wrong(what, " ", 1);
        }
    }

    /** For the first n bytes of a text, n from 0 on, where they are WRONG; BAD if they are not. */
    private static void cut(String what, String text, int... places) {
        check.due("how many cuts there are of " + text, places.length, text.length() + 1);
        for (int n = 0; n < places.length; n++) {
            if (places[n] == BAD) {
                right(what, text.substring(0, n));
            } else {
                wrong(what, text.substring(0, n), places[n]);
            }
        }
    }

    private static void somethingLacks() {
        check.about("'where something lacks, at the TAPE's length'");
        cut("thing", "jar 12 5 not skin", 0, 0, 0, 3, 4, 5, 6, 7, BAD, BAD, 9, 9, 12, 13, 13, 13, 13, BAD);
        cut("thing", " book1 1", 0, 1, 1, 1, 1, 5, 6, 7, BAD);
        cut("house", "2 10 5 90", 0, 1, 2, 3, 4, 5, 6, 7, BAD, BAD);
        cut("courier", "0-9 , 10-12", 0, 1, 2, BAD, BAD, 5, 6, 7, 8, 9, BAD, BAD);
        cut("loan", "10+5 :0,11", 0, 1, 2, 3, 4, 5, 6, BAD, 8, BAD, BAD);
        cut("report", "tear 1 22,loss0 1", 0, 0, 0, 0, 4, 5, 6, 7, BAD, BAD, 10, 10, 10, 10, 14, 15, 16, BAD);
        cut("report", " sound ", 0, 1, 1, 1, 1, 1, BAD, BAD);
    }

    private static void nothingMayStandBehind() {
        check.about("'Behind it nothing may stand'");
        String[] more = {"5", "00000", "jar", "tear", "sound", "not", "xyz", "+", "-", ",", ":", "#", "\u0000", "\u00ff", "A"};
        for (String[] text : RIGHT) {
            String bare = text[1].replace("|", " ");
            for (String piece : more) {
                boolean goesOn = piece.equals(",") && !text[0].equals("thing") && !text[0].equals("house")
                    && !bare.equals("sound") || piece.equals("not") && text[0].equals("thing");
                int behind = bare.length() + 2;
                wrong(text[0], bare + "  " + piece, goesOn ? behind + piece.length() : behind);
                wrong(text[0], bare + "  " + piece + "  ", goesOn ? behind + piece.length() + 2 : behind);
            }
        }
    }

    private static void firstPieceThatCannotStand() {
        check.about("'at the first byte of the first PIECE that can't stand there'");
        wrong("thing", "jar 12345 xyz", 4);
        wrong("thing", "jar xyz 12345", 4);
        wrong("thing", "# jar", 0);
        wrong("thing", "jar # #", 4);
        wrong("thing", "   abc # 12345", 3);
        wrong("house", "1 2 jar # 4", 4);
        wrong("courier", "0-9,x-12345", 4);
        wrong("courier", "0-9 , 10+12 , #", 8);
        wrong("loan", "10+jar:#", 3);
        wrong("report", "tear 1,#", 6);
        // what can't stand is told ahead of what lacks and ahead of any FAULT
        wrong("thing", "jar 0 1000 not jar not jar not", 30);
        wrong("house", "0 0 0 0 0", 8);
        wrong("courier", "9-0,", 4);
        wrong("loan", "9999+0:99,", 10);
        wrong("report", "tear 100 0,", 11);
    }

    private static void placeStays() {
        check.about("'Where the latest text that was read was WRONG; BAD if it was not, and ahead of one'");
        Book book = new Book();
        check.due("place() ahead of a text", book.place(), BAD);
        Check.tell(book, "jar #");
        check.due("place() of a text that was not read", book.place(), BAD);
        book.thing();
        check.due("place() of the WRONG text", book.place(), 4);
        book.count(0);
        book.end(1);
        book.cancel(0);
        book.value(0, 0);
        check.due("place() behind other calls", book.place(), 4);
        Check.thing(book, "jar 5 7");
        check.due("place() of a right text", book.place(), BAD);
        Check.house(book, "#");
        check.due("place() of another WRONG text", book.place(), 0);
        Check.house(book, "0 1 1 1");
        check.due("place() of a text with a FAULT", book.place(), BAD);
    }
}
