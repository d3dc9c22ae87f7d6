/** The boundaries that promises 10 to 15 and the Terms of TEXTS name, on both sides of each. */
public final class TextEdgesTest {
    private static final Check check = new Check("TextEdgesTest");
    private static final Twins busy = new Twins(check, Towns::busy);
    private static final int LEAST = Integer.MIN_VALUE;
    private static final int MOST = Integer.MAX_VALUE;
    private static final int BLANKS = 0x20202020;
    /** The greatest int, of numbers of four digits. */
    private static final String GREATEST = "9999*9999*21+9999*4790+8416";

    public static void main(String[] args) {
        tapeOfFourHundred();
        bytesOfEachNumber();
        endAtItsEdges();
        tapeIsEmptyThen();
        noSuchText();
        faultyTextsStay();
        emptyTexts();
        faultOfNoSuchWhat();
        blanksAndOtherBytes();
        runsOfLetters();
        numbersOfFourDigits();
        partsByNought();
        deedsUpToNinetyNine();
        seventeenLines();
        nineOpen();
        theEndIsTheLength();
        nothingBehindTheEnd();
        theFirstFault();
        theLeastAtOnePlace();
        numbersWrap();
        quotientsGoTowardsNought();
        comparisonsAtEqual();
        nightInItsHours();
        feastsAndDays();
        rulesAskPeople();
        doesAtItsEdges();
        wordThatCannotBe();
        wordAtItsEdges();
        check.end();
    }

    private static int blanks(SilenceForMoney x) {
        return x.feed(BLANKS, BLANKS, BLANKS, BLANKS, BLANKS);
    }

    private static SilenceForMoney withTape(int length) {
        SilenceForMoney x = Towns.busy();
        x.end(0);
        for (int i = 0; i < 20; i++) {
            blanks(x);
        }
        x.end(length);
        return x;
    }

    /** "NONE, and nothing comes, if there would be more than 400". */
    private static void tapeOfFourHundred() {
        for (int length : new int[] {0, 1, 360, 379, 380}) {
            check.due("feed behind " + length, blanks(withTape(length)), length + 20);
        }
        for (int length : new int[] {381, 382, 399, 400}) {
            Twins full = new Twins(check, () -> withTape(length));
            full.leaves("feed behind " + length, -1, x -> x.feed(-1, -1, -1, -1, -1));
            SilenceForMoney x = withTape(length);
            blanks(x);
            check.due("not one more", x.end(length + 1), false);
            check.due("not one less", x.end(length), true);
        }
        SilenceForMoney x = new SilenceForMoney();
        for (int i = 1; i <= 20; i++) {
            check.due("feed " + i, blanks(x), i * 20);
        }
        check.due("feed 21", blanks(x), -1);
        check.due("room again behind end", x.end(380) && blanks(x) == 400, true);
    }

    /** "Twenty bytes .., of each number the highest first". */
    private static void bytesOfEachNumber() {
        int[] places = {0x80000000, 0x00800000, 0x00008000, 0x00000080};
        for (int number = 0; number < 5; number++) {
            for (int at = 0; at < 4; at++) {
                int[] n = {BLANKS, BLANKS, BLANKS, BLANKS, BLANKS};
                n[number] |= places[at];
                SilenceForMoney x = new SilenceForMoney();
                x.feed(n[0], n[1], n[2], n[3], n[4]);
                check.due("a byte above 127", x.text(0), -1);
                check.due("stands at its place", x.fault(1), number * 4 + at);
            }
        }
        SilenceForMoney y = new SilenceForMoney();
        y.feed(0x68757368, 0x3b68753b, 0, 0, 0);
        y.end(5);
        check.due("hush by its bytes", y.text(2), 1);
    }

    /** "False, changing nothing, if it has not so many, or n is below 0". */
    private static void endAtItsEdges() {
        for (int n : new int[] {-1, 13, 400, 401, LEAST, MOST}) {
            busy.refuses("end " + n + " of 12", x -> x.end(n));
        }
        busy.leaves("end 12 of 12", 1, x -> x.end(12) ? 1 : 0);
        SilenceForMoney x = Towns.busy();
        check.due("end 11 of 12", x.end(11), true);
        check.due("no 12 any more", x.end(12), false);
        check.due("the last sign is gone", x.text(2), -1);
        check.due("so it ends there", x.fault(1), 11);
        SilenceForMoney y = Towns.busy();
        check.due("end 0 of 12", y.end(0), true);
        check.due("not even 1", y.end(1), false);
        check.due("0 again", y.end(0), true);
        SilenceForMoney full = withTape(400);
        check.due("end 401 of 400", full.end(401), false);
        check.due("end 400 of 400", full.end(400), true);
    }

    /** "The TAPE, empty then". */
    private static void tapeIsEmptyThen() {
        String[] texts = {"hush;", "hush", ""};
        for (int k : new int[] {0, 1, 2, 3, 4, 5, -1, 6}) {
            for (String text : texts) {
                SilenceForMoney x = new SilenceForMoney();
                Check.tape(x, text);
                x.text(k);
                check.due("empty behind text " + k + " of " + text, x.end(1), false);
                check.due("with room for all", blanks(x), 20);
            }
        }
    }

    /** "NONE: no such one (fault() tells 0)". */
    private static void noSuchText() {
        for (int k : new int[] {-1, 6, LEAST, MOST}) {
            SilenceForMoney x = Towns.busy();
            SilenceForMoney y = Towns.busy();
            check.due("a FAULT was told", x.fault(0), 2);
            check.due("text " + k, x.text(k), -1);
            check.due("no FAULT", x.fault(0), 0);
            check.due("no place", x.fault(1), -1);
            y.end(0);
            Check.text(y, 4, "");
            check.due("no text changed", Portrait.whole(x), Portrait.whole(y));
        }
    }

    /** "Or a FAULT (it stays as it was)". */
    private static void faultyTextsStay() {
        SilenceForMoney x = new SilenceForMoney();
        x.one(0, 0, 0, 0, 0);
        for (int k = 0; k < 2; k++) {
            Check.text(x, k, "word when loud=4" + k + ";");
            check.due("a FAULT behind a sound line", Check.text(x, k, "word when 1=1;word"), -1);
            check.due("LAW " + k + " stays", x.word(k, 0, 40 + k, 0, false, false), 1);
            check.due("and no more", x.word(k, 0, 42, 0, false, false), 0);
            check.due("an empty one is none", x.text(k), 0);
            check.due("LAW " + k + " is empty", x.word(k, 0, 40 + k, 0, false, false), 0);
        }
        for (int k = 2; k < 6; k++) {
            x.tell(0, 3, k - 2);
            Check.text(x, k, "talk " + k + ";");
            check.due("a FAULT behind a sound line", Check.text(x, k, "work 5;talk"), -1);
            check.due("RULE " + (k - 2) + " stays", x.does(0), k + 1);
            check.due("an empty one is none", x.text(k), 0);
            check.due("RULE " + (k - 2) + " is empty", x.does(0), 0);
        }
    }

    private static void emptyTexts() {
        check.sound(0, "", 0);
        check.sound(2, "", 0);
        check.sound(1, " ", 0);
        check.sound(5, "\n", 0);
        check.sound(3, " \n".repeat(200), 0);
    }

    /** "NONE for another what". */
    private static void faultOfNoSuchWhat() {
        for (int what : new int[] {-1, 2, LEAST, MOST}) {
            busy.leaves("fault " + what, -1, x -> x.fault(what));
        }
        SilenceForMoney x = Towns.busy();
        check.due("fault 0", x.fault(0), 2);
        check.due("fault 1", x.fault(1), 5);
        SilenceForMoney y = new SilenceForMoney();
        check.due("fault 0 at first", y.fault(0), 0);
        check.due("fault 1 at first", y.fault(1), -1);
    }

    /** "Blanks (32, 10) between": any other byte can't stand there. */
    private static void blanksAndOtherBytes() {
        for (int b = 0; b < 256; b++) {
            String text = "hush" + (char) b + "; ";
            boolean letter = b >= 'a' && b <= 'z' || b >= 'A' && b <= 'Z';
            if (b == 32 || b == 10) {
                check.sound(2, text, 1);
            } else {
                check.faulty(2, text, 1, letter ? 0 : b == ';' ? 5 : 4);
            }
            String number = "talk 1" + (char) b + "2;";
            if (b >= '0' && b <= '9') {
                if (b == '0') {
                    check.faulty(2, number, 2, 5);
                }
            } else {
                check.faulty(2, number, 1, b == 32 || b == 10 || b == ';' ? 7 : 6);
            }
        }
    }

    /** "Letters as many as stand together are KEYWORDS (those told for such a TEXT) or none". */
    private static void runsOfLetters() {
        String[] law = {"loud", "sort", "hour", "night", "feast", "child"};
        String[] rule = {"hour", "quarter", "day", "night", "feast", "owes", "owed", "with"};
        String[] none = {"word", "talk", "work", "hush", "when", "or", "and", "not"};
        for (String w : law) {
            valueOf(0, w, true);
            valueOf(2, w, java.util.List.of(rule).contains(w));
        }
        for (String w : rule) {
            valueOf(2, w, true);
            valueOf(0, w, java.util.List.of(law).contains(w));
        }
        for (String w : none) {
            String text = "word when 0=" + w + ";";
            check.faulty(0, text, 1, 12);
        }
        check.faulty(0, "wordwhen 1=1;", 1, 0);
        check.faulty(0, "word when 1=1or 1=1 and1=1 not;", 1, 27);
        check.sound(0, "word when 1=1or 1=1and 1=1;", 1);
        check.sound(2, "talk7when 1=1;hush;", 2);
    }

    /** A KEYWORD that stands for a value, and the same with a letter less and one more. */
    private static void valueOf(int k, String w, boolean stands) {
        String head = k < 2 ? "word when 0=" : "hush when 0=";
        if (stands) {
            check.sound(k, head + w + ";", 1);
        } else {
            check.faulty(k, head + w + ";", 1, 12);
        }
        check.faulty(k, head + w.substring(1) + ";", 1, 12);
        check.faulty(k, head + w.substring(0, w.length() - 1) + ";", 1, 12);
        check.faulty(k, head + w + w.charAt(0) + ";", 1, 12);
        check.faulty(k, head + w.substring(0, 1).toUpperCase() + w.substring(1) + ";", 1, 12);
    }

    /** "NUMBERS of 1 to 4 digits or none". */
    private static void numbersOfFourDigits() {
        String[] sound = {"0", "9", "10", "99", "100", "999", "1000", "9999", "0000", "0001"};
        for (String n : sound) {
            check.sound(0, "word when " + n + "=1;", 1);
            check.due("its value", judge(n + "=" + Integer.parseInt(n) / 100 + "*100+" + Integer.parseInt(n) % 100), 1);
        }
        for (String n : new String[] {"00000", "10000", "99999", "00001", "1234567890123456789"}) {
            check.faulty(0, "word when " + n + "=1;", 1, 10);
            check.faulty(0, "word when 1/" + n + "=1;", 1, 12);
            check.faulty(2, "talk " + n + ";", 1, 5);
        }
        check.due("9999 and one more", judge("9999+1=100*100"), 1);
    }

    /** "2 (at the NUMBER) a part by 0". */
    private static void partsByNought() {
        for (String n : new String[] {"0", "00", "000", "0000"}) {
            check.faulty(0, "word when 1/" + n + "=1;", 2, 12);
            check.faulty(2, "hush when 1=2*3/ " + n + ";", 2, 17);
        }
        for (String n : new String[] {"1", "01", "0001", "9999"}) {
            check.sound(0, "word when 1/" + n + "=1;", 1);
        }
        for (String sign : new String[] {"=", ";", "+1=1", " and 1=1", ")", "<1", ""}) {
            check.faulty(0, "word when 1/" + sign, 1, sign.startsWith(" ") ? 13 : 12);
            check.faulty(0, "word when 1=1*2/" + sign, 1, sign.startsWith(" ") ? 17 : 16);
        }
        check.sound(0, "word when 0/1=0;", 1);
        check.sound(0, "word when 1*0=0;", 1);
    }

    /** "A talk or work above 99". */
    private static void deedsUpToNinetyNine() {
        for (String deed : new String[] {"talk ", "work "}) {
            check.sound(2, deed + "0;", 1);
            check.sound(2, deed + "99;", 1);
            check.sound(2, deed + "0099;", 1);
            check.faulty(2, deed + "100;", 2, 5);
            check.faulty(2, deed + "0100;", 2, 5);
            check.faulty(2, deed + "9999;", 2, 5);
            check.faulty(2, deed + "99;" + deed + "100", 2, 13);
        }
    }

    /** "3 (at its KEYWORD) the 17th line". */
    private static void seventeenLines() {
        check.sound(0, "word when 1=1;".repeat(16), 16);
        check.faulty(0, "word when 1=1;".repeat(17), 3, 224);
        check.sound(1, "word when 1=1;".repeat(16) + " \n ", 16);
        check.faulty(1, "word when 1=1;".repeat(16) + " \n word when 1=1;", 3, 227);
        for (String line : new String[] {"talk 1;", "work 2;", "hush;"}) {
            check.sound(2, line.repeat(16), 16);
            check.faulty(5, line.repeat(17), 3, 16 * line.length());
        }
        check.faulty(2, "hush;".repeat(16) + "hush", 3, 80);
        SilenceForMoney x = new SilenceForMoney();
        x.one(0, 0, 0, 0, 0);
        check.due("the 16th line", Check.text(x, 2, "hush when 1=2;".repeat(15) + "talk 9;"), 16);
        check.due("is asked", x.does(0), 10);
        check.due("of a LAW", Check.text(x, 0, "word when 1=2;".repeat(15) + "word when 1=1;"), 16);
        check.due("it is, too", x.word(0, 0, 0, 0, false, false), 1);
    }

    /** "(at it) the 9th ( or not that is open". */
    private static void nineOpen() {
        for (int nots = 0; nots <= 9; nots++) {
            String nine = "(".repeat(9 - nots) + "not ".repeat(nots);
            int place = 10 + (nots == 0 ? 8 : 9 - nots + 4 * (nots - 1));
            check.faulty(0, "word when " + nine + "1=1" + ")".repeat(9 - nots) + ";", 3, place);
        }
        for (int nots = 0; nots <= 8; nots++) {
            String eight = "(".repeat(8 - nots) + "not ".repeat(nots);
            String b = eight + "1=1" + ")".repeat(8 - nots);
            check.sound(0, "word when " + b + ";", 1);
            check.sound(0, "word when " + b + " and " + b + " or " + b + ";", 1);
            check.due("eight open, " + nots + " of them not", judge(b), nots % 2 == 0 ? 1 : 0);
        }
        String deep = "1=2 or 1=1 and(".repeat(8) + "1=2 or 1=1 and 7=1+3*2" + ")".repeat(8);
        check.due("as deep as can be", judge(deep), 1);
        check.due("and not so", judge(deep.replace("7=", "8=")), 0);
        String nots = "1=2 or 1=1 and not " + "not ".repeat(7) + "7=1+3*2";
        check.due("as deep by nots", judge(nots), 1);
        check.due("a bracket behind and", judge("1=1 and(1=2)"), 0);
        check.due("a bracket behind or", judge("1=2 or(1=1 and 1=2)"), 0);
        check.due("brackets within", judge("1=1 and(1=1 and(1=2))or 1=2"), 0);
        check.due("not behind and", judge("1=1 and not 1=2"), 1);
        check.due("not behind and, not so", judge("1=1 and not 1=1"), 0);
        check.due("not behind or", judge("1=2 or not 1=2"), 1);
        check.due("not behind both", judge("1=2 or 1=1 and not 1=1"), 0);
        check.sound(0, "word when " + "(1=1)and".repeat(20) + "(1=1);", 1);
        check.sound(0, "word when " + "not 1=1 and ".repeat(20) + "not 1=1;", 1);
        check.sound(2, "hush when ((((((((1=1))))))));hush when ((((((((1=1))))))));", 2);
        check.faulty(0, "word when ((((((((1=1)and(1=1)and((1=1))))))))));", 3, 34);
    }

    /** "1 what can't stand there (the end: the text's length)". */
    private static void theEndIsTheLength() {
        String line = "word when not ( 1 + 1 < 2 * 3 / 1 ) and 1 = 1 or 1 > 2 ";
        String[] words = line.split(" ");
        StringBuilder s = new StringBuilder();
        for (String w : words) {
            s.append(w);
            check.faulty(0, s.toString(), 1, s.length());
            s.append(' ');
            check.faulty(0, s.toString(), 1, s.length());
            s.append('\n');
            check.faulty(0, s.toString(), 1, s.length());
        }
        String full = "word when 1=1" + " ".repeat(386);
        check.faulty(0, full, 1, 399);
        check.faulty(0, full + " ", 1, 400);
        check.sound(0, full + ";", 1);
    }

    /** "The TAPE has its first n bytes alone": what was behind them is no part of a run. */
    private static void nothingBehindTheEnd() {
        String[] cut = {"word when hour|x=1;", "word when 1=1 o|r 1=1;", "word when 123|45=1;", "word when 1/1|0=1;", "wor|d"};
        int[] place = {14, 14, 13, 13, 0};
        for (int i = 0; i < cut.length; i++) {
            SilenceForMoney x = new SilenceForMoney();
            int end = cut[i].indexOf('|');
            Check.tape(x, cut[i].replace("|", ""));
            x.end(end);
            check.due("cut " + cut[i], x.text(0), -1);
            check.due("a FAULT of it", x.fault(0), 1);
            check.due("its place", x.fault(1), place[i]);
        }
        String full = "word when 1=1" + " ".repeat(385);
        check.faulty(0, full + "or", 1, 400);
        check.faulty(0, full + "an", 1, 398);
        check.faulty(0, full + "12", 1, 398);
        check.faulty(0, full + " o", 1, 399);
        check.faulty(0, "word when 1=1+" + " ".repeat(382) + "1234", 1, 400);
        check.faulty(0, "word when 1=1+" + " ".repeat(382) + "nigh", 1, 396);
        check.faulty(0, " ".repeat(399) + ";", 1, 399);
        check.faulty(0, "\n".repeat(399) + "w", 1, 399);
        check.sound(0, " ".repeat(386) + "word when 1=1;", 1);
        check.sound(2, "\n".repeat(395) + "hush;", 1);
    }

    /** "FAULTS, the first by its place". */
    private static void theFirstFault() {
        check.faulty(2, "talk 100 talk;", 2, 5);
        check.faulty(2, "talk talk 100;", 1, 5);
        check.faulty(2, "talk 100 when 1/0=1;", 2, 5);
        check.faulty(2, "talk 99 when 1/0=1/0;", 2, 15);
        check.faulty(2, "hush when 1/0=12345;", 2, 12);
        check.faulty(2, "hush when 12345=1/0;", 1, 10);
        check.faulty(0, "word when (((((((((1/0=1;", 3, 18);
        check.faulty(0, "word when 1/0=1 and (((((((((1=1;", 2, 12);
        check.faulty(0, "word when 1=1;".repeat(15) + "word when 1/0=1;word", 2, 222);
    }

    /** "At one place the least". */
    private static void theLeastAtOnePlace() {
        check.faulty(0, "word when ((((((((1=(1=1", 1, 20);
        check.faulty(0, "word when ((((((((1=not 1=1", 1, 20);
        check.faulty(0, "word when 1=1;".repeat(16) + "hush;", 1, 224);
        check.faulty(2, "hush;".repeat(16) + "word", 1, 80);
        check.faulty(2, "hush;".repeat(16) + "when", 1, 80);
        check.faulty(2, "talk 10000;", 1, 5);
        check.faulty(2, "hush 100;", 1, 5);
    }

    private static int judge(String b) {
        SilenceForMoney x = new SilenceForMoney();
        check.due("LAW of " + b, Check.text(x, 0, "word when " + b + ";"), 1);
        return x.word(0, 0, 7, 12, false, false);
    }

    /** "Ints, which wrap". */
    private static void numbersWrap() {
        check.due("the greatest int", judge(GREATEST + ">0"), 1);
        check.due("one more is the least", judge(GREATEST + "+1<0"), 1);
        check.due("which is the least", judge(GREATEST + "+1=0-" + GREATEST.replace('+', '-') + "-1"), 1);
        check.due("the least less one", judge("0-" + GREATEST.replace('+', '-') + "-2=" + GREATEST), 1);
        check.due("a product wraps", judge("9999*9999*22=0-9999*9999*20-9999*9581-6835"), 1);
    }

    /** "/ goes towards 0". */
    private static void quotientsGoTowardsNought() {
        check.due("below 0", judge("9999*9999*22/9999=0-9999*20-9581"), 1);
        check.due("not downwards", judge("9999*9999*22/9999=0-9999*20-9582"), 0);
        check.due("above 0", judge("9998/9999=0"), 1);
        check.due("whole", judge("9999/9999=1"), 1);
        check.due("left first", judge("7/2*2=6"), 1);
        check.due("a product first", judge("7*2/2=7"), 1);
    }

    private static void comparisonsAtEqual() {
        String[] not = {"7<7", "7>7", "7=8", "7=6", "8<7", "6>7"};
        String[] so = {"7=7", "6<7", "8>7"};
        for (String b : not) {
            check.due(b, judge(b), 0);
            check.due("loud in " + b, judge(b.replaceFirst("7", "loud")), 0);
            check.due("not " + b, judge("not " + b), 1);
        }
        for (String b : so) {
            check.due(b, judge(b), 1);
            check.due("not " + b, judge("not " + b), 0);
        }
    }

    /** "It is night in HOURS below 6 and from 22 on". */
    private static void nightInItsHours() {
        SilenceForMoney x = new SilenceForMoney();
        x.one(0, 0, 0, 0, 0);
        Check.text(x, 0, "word when night=1;");
        Check.text(x, 1, "word when night=0;");
        Check.text(x, 2, "talk 1 when night=1;talk 2 when night=0;");
        for (int hour = 0; hour < 24; hour++) {
            boolean night = hour < 6 || hour >= 22;
            check.due("LAW by night " + hour, x.word(0, 0, 0, hour, false, false), night ? 1 : 0);
            check.due("LAW by day " + hour, x.word(1, 0, 0, hour, false, false), night ? 0 : 1);
            for (int quarter = 0; quarter < 4; quarter++) {
                x.set(7, hour * 4 + quarter);
                check.due("RULE in " + hour, x.does(0), night ? 2 : 3);
            }
        }
    }

    /** "Hour, quarter (QUARTER modulo 4), day, .. feast". */
    private static void feastsAndDays() {
        for (int quarter : new int[] {0, 1, 2, 3, 4, 47, 92, 93, 94, 95}) {
            SilenceForMoney x = new SilenceForMoney();
            x.one(0, 0, 0, 0, 0);
            x.set(7, quarter);
            Check.text(x, 2, "talk 1 when hour=" + quarter / 4 + " and quarter=" + quarter % 4 + ";");
            check.due("hour and quarter of " + quarter, x.does(0), 2);
        }
        SilenceForMoney y = new SilenceForMoney();
        y.one(0, 0, 0, 0, 0);
        Check.text(y, 2, "talk 1 when feast=1;talk 2 when feast=0;");
        int[][] cases = {{0, 0, 0}, {0, 5, 0}, {1, 0, 1}, {1, 9999, 1}, {2, 9999, 0}, {2, 9998, 1}, {99, 0, 1}, {99, 98, 0},
            {99, 99, 1}, {99, 100, 0}, {99, 9999, 1}};
        for (int[] c : cases) {
            y.set(4, c[0]);
            y.set(6, c[1]);
            check.due("FEASTS " + c[0] + " on DAY " + c[1], y.does(0), c[2] == 1 ? 2 : 3);
        }
        for (int day : new int[] {0, 1, 9998, 9999}) {
            y.set(6, day);
            Check.text(y, 2, "talk 1 when day=" + day + ";");
            check.due("day " + day, y.does(0), 2);
        }
    }

    /** "Owes", "owed" with all HOURS there can be, "with" nobody and all eleven others. */
    private static void rulesAskPeople() {
        SilenceForMoney x = Towns.grown(12);
        x.tell(0, 3, 0);
        Check.text(x, 2, "talk 1 when with=11;");
        check.due("with all others", x.does(0), 2);
        for (int who = 1; who < 12; who++) {
            x.tell(who, 0, 5);
        }
        Check.text(x, 2, "talk 1 when with=0;");
        check.due("with nobody", x.does(0), 2);
        x.tell(0, 0, 5);
        x.tell(11, 0, 4);
        Check.text(x, 2, "talk 1 when with=10;");
        check.due("with all but one", x.does(0), 2);
        x.tell(11, 0, 5);
        for (int who = 1; who < 11; who++) {
            x.tell(who, 0, 1);
        }
        x.tell(11, 3, 0);
        Check.text(x, 2, "talk 1 when with=1;");
        check.due("the first with the last", x.does(0), 2);
        check.due("the last with the first", x.does(11), 2);
        for (int d = 0; d < 40; d++) {
            x.debt(0, 11, 200);
        }
        Check.text(x, 2, "talk 1 when owes=8000 and owed=0;");
        check.due("owes all", x.does(0), 2);
        x.tell(11, 3, 1);
        Check.text(x, 3, "talk 1 when owes=0 and owed=8000;");
        check.due("owed all", x.does(11), 2);
        x.sell(39, 1, 0);
        Check.text(x, 2, "talk 1 when owes=7800;");
        check.due("what he sold he owes not", x.does(0), 2);
        Check.text(x, 3, "talk 1 when owed=8000;");
        check.due("it is owed still", x.does(11), 2);
    }

    /** "0 hushes, 1 .. 100 talks, 101 .. 200 works. NONE if one can't be (not grown)". */
    private static void doesAtItsEdges() {
        int[][] deeds = {{0, 0}, {1, 1}, {98, 98}, {99, 99}};
        SilenceForMoney x = new SilenceForMoney();
        x.one(0, 0, 0, 0, 3);
        for (int[] d : deeds) {
            Check.text(x, 5, "talk " + d[0] + ";");
            check.due("talk " + d[0], x.does(0), d[0] + 1);
            Check.text(x, 5, "work " + d[0] + ";");
            check.due("work " + d[0], x.does(0), d[0] + 101);
        }
        Check.text(x, 5, "hush;talk 1;");
        check.due("hush", x.does(0), 0);
        for (int who : new int[] {-1, 5, LEAST, MOST, 2, 3}) {
            busy.leaves("does " + who, -1, y -> y.does(who));
        }
        check.due("the last of PEOPLE", Towns.busy().does(4), 10);
        check.due("nobody yet", new SilenceForMoney().does(0), -1);
    }

    private static void wordThatCannotBe() {
        for (int v : new int[] {-1, 2, LEAST, MOST}) {
            busy.leaves("word by LAW " + v, -1, x -> x.word(v, 0, 50, 12, false, false));
        }
        for (int v : new int[] {-1, 4, LEAST, MOST}) {
            busy.leaves("word of SORT " + v, -1, x -> x.word(0, v, 50, 12, false, false));
        }
        for (int v : new int[] {-1, 100, LEAST, MOST}) {
            busy.leaves("word so loud " + v, -1, x -> x.word(0, 0, v, 12, false, false));
        }
        for (int v : new int[] {-1, 24, LEAST, MOST}) {
            busy.leaves("word in HOUR " + v, -1, x -> x.word(0, 0, 50, v, false, false));
        }
    }

    private static void wordAtItsEdges() {
        int[][] edges = {{0, 0, 0}, {3, 99, 23}, {0, 99, 0}, {3, 0, 23}};
        for (int law = 0; law < 2; law++) {
            for (int[] e : edges) {
                SilenceForMoney x = new SilenceForMoney();
                Check.text(x, law, "word when sort=" + e[0] + " and loud=" + e[1] + " and hour=" + e[2]
                    + " and child=1 and feast=1;");
                check.due("at its edges", x.word(law, e[0], e[1], e[2], true, true), 1);
                check.due("by no child", x.word(law, e[0], e[1], e[2], false, true), 0);
                check.due("on no FEAST", x.word(law, e[0], e[1], e[2], true, false), 0);
                check.due("by the other LAW", x.word(1 - law, e[0], e[1], e[2], true, true), 0);
            }
        }
    }
}
