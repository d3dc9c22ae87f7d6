/** The boundaries that promises 16, 17, 28 and 30 and the Terms of QUARTERS name, on both sides of each. */
public final class QuarterEdgesTest {
    private static final Check check = new Check("QuarterEdgesTest");
    private static final Twins busy = new Twins(check, Towns::busy);
    private static final int LEAST = Integer.MIN_VALUE;
    private static final int MOST = Integer.MAX_VALUE;

    public static void main(String[] args) {
        quartersThatCannotBe();
        quartersAtTheirEdges();
        notAboveTheLastDay();
        behindTheLastQuarter();
        linesTellTheQuarterItself();
        fourPartsAreAnHour();
        theLastHour();
        heardAtTheEar();
        heardOfTheHour();
        falseAboveNought();
        falseStrikesAreAllCounted();
        brokenWithoutAPart();
        spokeAndNothingCounts();
        feastsCountNothing();
        feastsAreAsked();
        whispersAtTheirEdges();
        loudByTwo();
        nightAndDay();
        childrenOfTheWorker();
        orderOfSeveral();
        countsAreSinceFirst();
        bookOfFourHundred();
        bookIsFullForAll();
        bookThatCannotBe();
        noiseThatCannotBe();
        noiseOfTheLastQuarter();
        lookThatCannotBe();
        check.end();
    }

    /** "NONE, and nothing is done, if one can't be". */
    private static void quartersThatCannotBe() {
        for (int n : new int[] {0, -1, 961, 962, LEAST, MOST}) {
            busy.leaves("quarters " + n, -1, x -> x.quarters(n));
        }
    }

    /** "QUARTERS go by (1 .. 960)". */
    private static void quartersAtTheirEdges() {
        for (int n : new int[] {1, 2, 95, 96, 97, 959, 960}) {
            SilenceForMoney x = Towns.grown(2);
            x.set(7, 0);
            for (int d = 0; d < 2; d++) {
                x.debt(1, 0, 200);
            }
            check.due("paid in " + n, x.quarters(n), n / 4);
            check.due("DAY behind " + n, x.look(3), n / 96);
            check.due("QUARTER behind " + n, x.look(4), n % 96);
        }
    }

    /** "Or DAY would be above 9999". */
    private static void notAboveTheLastDay() {
        int[][] cases = {{9999, 0, 95}, {9999, 1, 94}, {9999, 94, 1}, {9999, 95, 0}, {9998, 95, 96}, {9998, 0, 191},
            {9990, 0, 959}, {9990, 95, 864}, {9989, 95, 960}, {9990, 1, 958}};
        for (int[] c : cases) {
            if (c[2] > 0) {
                SilenceForMoney x = lateTown(c[0], c[1]);
                check.due("so many can be from " + c[0] + " " + c[1], x.quarters(c[2]) >= 0, true);
                check.due("and DAY is", x.look(3), 9999);
                check.due("and QUARTER", x.look(4), 95);
                check.due("no more", x.quarters(1), -1);
            }
            if (c[2] < 960) {
                Twins late = new Twins(check, () -> lateTown(c[0], c[1]));
                late.leaves("one more from " + c[0] + " " + c[1], -1, x -> x.quarters(c[2] + 1));
                late.leaves("960 from " + c[0] + " " + c[1], -1, x -> x.quarters(960));
            }
        }
    }

    private static SilenceForMoney lateTown(int day, int quarter) {
        SilenceForMoney x = Towns.busy();
        x.set(6, day);
        x.set(7, quarter);
        return x;
    }

    /** "Behind the 95th it is 0 and DAY one more". */
    private static void behindTheLastQuarter() {
        SilenceForMoney x = new SilenceForMoney();
        x.set(7, 94);
        x.quarters(1);
        check.due("the 95th", x.look(3) * 100 + x.look(4), 95);
        x.quarters(1);
        check.due("behind it", x.look(3) * 100 + x.look(4), 100);
        x.quarters(1);
        check.due("goes on", x.look(3) * 100 + x.look(4), 101);
        x.set(6, 9998);
        x.set(7, 95);
        x.quarters(1);
        check.due("into the last DAY", x.look(3) * 100 + x.look(4), 999900);
    }

    private static void linesTellTheQuarterItself() {
        SilenceForMoney x = Towns.grown(2);
        x.debt(1, 0, 1);
        x.set(6, 9998);
        x.set(7, 92);
        check.due("an HOUR in the last QUARTER", x.quarters(4), 1);
        long[][] want = {{9998, 95, 0, 1, 0}, {9998, 95, 4, 1, 0}};
        lines(x, want);
        check.due("the next DAY by then", x.look(3) * 100 + x.look(4), 999900);
    }

    private static void lines(SilenceForMoney x, long[][] want) {
        check.due("lines", x.look(2), want.length);
        for (int i = 0; i < want.length; i++) {
            for (int what = 0; what < 5; what++) {
                check.due("line " + i + " what " + what, x.book(i, what), want[i][what]);
            }
        }
    }

    /** "PART is one more; at 4 it is 0, an HOUR is paid: one less LEFT". */
    private static void fourPartsAreAnHour() {
        SilenceForMoney x = Towns.grown(2);
        x.debt(1, 0, 3);
        for (int i = 1; i <= 8; i++) {
            check.due("paid by " + i, x.quarters(1), i % 4 == 0 ? 1 : 0);
            check.due("PART behind " + i, x.of(0, 3), i % 4);
            check.due("LEFT behind " + i, x.of(0, 2), 3 - i / 4);
            check.due("paid of it behind " + i, x.of(0, 7), i / 4);
            check.due("lines behind " + i, x.look(2), i / 4);
        }
    }

    /** "4 a DEBT DONE, behind the line of its last HOUR". */
    private static void theLastHour() {
        SilenceForMoney x = Towns.grown(3);
        x.debt(1, 0, 2);
        x.debt(2, 0, 1);
        x.quarters(8);
        long[][] want = {{0, 51, 0, 1, 0}, {0, 51, 0, 2, 1}, {0, 51, 4, 2, 1}, {0, 55, 0, 1, 0}, {0, 55, 4, 1, 0}};
        lines(x, want);
        check.due("nothing more comes", x.quarters(96), 0);
        check.due("nor a line", x.look(2), 5);
    }

    /** "LOUD as it is made, less the WALL .., is not below EAR". */
    private static void heardAtTheEar() {
        int[][] heard = {{0, 0, 0}, {5, 0, 5}, {99, 0, 99}, {99, 99, 0}, {50, 45, 5}, {1, 1, 0}, {99, 0, 0}};
        for (int[] c : heard) {
            check.due("loud " + c[0] + " wall " + c[1] + " ear " + c[2], isHeard(c[0], c[1], c[2]), true);
            if (c[0] > 0) {
                check.due("one softer", isHeard(c[0] - 1, c[1], c[2]), c[0] - 1 - c[1] >= c[2]);
            }
            if (c[1] < 99) {
                check.due("a thicker WALL", isHeard(c[0], c[1] + 1, c[2]), c[0] - c[1] - 1 >= c[2]);
            }
            if (c[2] < 99) {
                check.due("a worse EAR", isHeard(c[0], c[1], c[2] + 1), c[0] - c[1] >= c[2] + 1);
            }
        }
        check.due("less than nothing is below EAR 0", isHeard(0, 1, 0), false);
        check.due("far less, too", isHeard(0, 99, 0), false);
    }

    /** Whether talk so loud behind such a WALL breaks an HOUR. */
    private static boolean isHeard(int loud, int wall, int ear) {
        SilenceForMoney x = Towns.grown(2);
        Check.text(x, 0, "word when 1=1;");
        Check.text(x, 2, "talk " + loud + ";");
        x.tell(1, 3, 0);
        x.tell(1, 0, 3);
        x.wall(3, 4, wall);
        x.set(22, wall == 0 ? 3 : 4);
        x.set(1, ear);
        x.debt(1, 0, 5);
        x.quarters(1);
        return x.of(0, 3) == 0;
    }

    /** "That of the ROUND in this HOUR": of the QUARTER that goes by, not of the next one. */
    private static void heardOfTheHour() {
        SilenceForMoney x = Towns.grown(2);
        Check.text(x, 0, "word when 1=1;");
        Check.text(x, 2, "talk 9;");
        x.tell(1, 3, 0);
        x.debt(1, 0, 9);
        x.set(22, 1);
        x.quarters(4);
        check.due("not heard up to the HOUR's last QUARTER", x.of(0, 7), 1);
        x.quarters(1);
        check.due("heard in the next HOUR's first", x.of(0, 3), 0);
        x.set(23, 1);
        x.set(24, 0);
        x.quarters(3);
        check.due("not heard till its last", x.of(0, 3), 3);
        x.quarters(1);
        check.due("then heard", x.of(0, 3), 0);
        check.due("and begun again", x.look(6), 1);
    }

    /** "With FALSE above 0, by a DRAW of 1000 below FALSE". */
    private static void falseAboveNought() {
        for (int f : new int[] {0, 1, 999, 1000}) {
            SilenceForMoney x = Towns.grown(2);
            x.debt(1, 0, 9);
            x.set(2, f);
            x.state(7);
            x.quarters(1);
            Check.Draws draws = new Check.Draws(7);
            boolean strike = f > 0 && draws.of(1000) < f;
            check.due("STATE with FALSE " + f, x.look(12), f == 0 ? 7 : draws.state);
            check.due("strike with FALSE " + f, x.look(7), strike ? 1 : 0);
            check.due("PART with FALSE " + f, x.of(0, 3), strike ? 0 : 1);
        }
        SilenceForMoney heard = Towns.grown(2);
        Check.text(heard, 0, "word when 1=1;");
        Check.text(heard, 2, "talk 9;");
        heard.tell(1, 3, 0);
        heard.debt(1, 0, 9);
        heard.set(2, 1000);
        heard.state(7);
        heard.quarters(1);
        check.due("no draw for one who is heard", heard.look(12), 7);
        check.due("nor a strike", heard.look(7), 0);
        SilenceForMoney none = Towns.grown(2);
        none.set(2, 1000);
        none.state(7);
        none.quarters(1);
        check.due("no draw for one without DEBTS", none.look(12), 7);
    }

    /** "HOURS begun again (BROKEN with PART above 0), FALSE strikes (all)". */
    private static void falseStrikesAreAllCounted() {
        SilenceForMoney x = Towns.grown(2);
        x.debt(1, 0, 9);
        x.set(2, 1000);
        x.quarters(3);
        check.due("all are counted", x.look(7), 3);
        check.due("none is begun again", x.look(6) + x.look(2), 0);
        x.set(2, 0);
        x.quarters(1);
        x.set(2, 1000);
        x.quarters(2);
        check.due("all five", x.look(7), 5);
        check.due("one begun again", x.look(6), 1);
        lines(x, new long[][] {{0, 52, 2, 1, 0}});
    }

    /** "BROKEN is only told there if PART was above 0". */
    private static void brokenWithoutAPart() {
        for (int parts = 0; parts <= 4; parts++) {
            SilenceForMoney x = Towns.grown(2);
            Check.text(x, 0, "word when 1=1;");
            Check.text(x, 2, "talk 9;");
            x.debt(1, 0, 9);
            if (parts > 0) {
                x.quarters(parts);
            }
            int before = x.look(2);
            x.tell(1, 3, 0);
            x.quarters(1);
            boolean told = parts % 4 > 0;
            check.due("PART behind " + parts, x.of(0, 3), 0);
            check.due("LEFT behind " + parts, x.of(0, 2), 9 - parts / 4);
            check.due("begun again behind " + parts, x.look(6), told ? 1 : 0);
            check.due("told behind " + parts, x.look(2) - before, told ? 1 : 0);
            check.due("no strike behind " + parts, x.look(7), 0);
            if (told) {
                check.due("with a WORD", x.book(before, 2), 1);
            }
        }
    }

    /** "If his NOISE is a WORD, he SPOKE: nothing counts". */
    private static void spokeAndNothingCounts() {
        SilenceForMoney x = Towns.grown(2);
        Check.text(x, 0, "word when loud=8;");
        Check.text(x, 2, "talk 7;");
        x.tell(0, 3, 0);
        x.debt(1, 0, 9);
        x.debt(0, 1, 9);
        x.set(1, 99);
        x.quarters(1);
        check.due("no WORD, no speaking", x.look(8), 0);
        check.due("both count", x.of(0, 3) + x.of(1, 3), 2);
        Check.text(x, 2, "talk 8;");
        x.set(2, 1000);
        x.state(3);
        x.quarters(2);
        check.due("he SPOKE twice, whatever his EAR", x.look(8), 2);
        check.due("PARTS stay", x.of(0, 3) + x.of(1, 3), 2);
        check.due("no draw", x.look(12), 3);
        lines(x, new long[][] {{0, 49, 3, 0, -1}, {0, 50, 3, 0, -1}});
        x.tell(0, 2, 1000);
        x.tell(0, 1, 16);
        x.set(7, 88);
        x.quarters(1);
        check.due("a whisper of his is one, too", x.look(8), 3);
        childRings();
    }

    private static void childRings() {
        SilenceForMoney x = Towns.grown(2);
        Check.text(x, 0, "word when child=1;");
        int child = x.one(1, 5, 9, 1000, 4);
        x.set(0, child);
        x.debt(1, 0, 9);
        x.quarters(1);
        check.due("a child that rings may speak", x.look(8), 1);
        check.due("it is told", x.book(0, 3), child);
        x.tell(child, 2, 0);
        x.quarters(1);
        check.due("or not", x.of(0, 3), 1);
    }

    /** "And it is no FEAST": by DAYS that FEASTS divides, 0 too. */
    private static void feastsCountNothing() {
        int[][] cases = {{0, 0, 0}, {0, 7, 0}, {1, 0, 1}, {1, 3, 1}, {2, 0, 1}, {2, 1, 0}, {2, 2, 1}, {99, 98, 0}, {99, 99, 1},
            {99, 198, 1}, {99, 0, 1}, {3, 9998, 0}, {3, 9999, 1}};
        for (int[] c : cases) {
            SilenceForMoney x = Towns.grown(2);
            Check.text(x, 0, "word when loud=8;");
            Check.text(x, 2, "talk 8 when hour=13;");
            x.tell(0, 3, 0);
            x.debt(1, 0, 9);
            x.set(2, 1);
            x.state(1);
            x.set(4, c[0]);
            x.set(6, c[1]);
            x.quarters(4);
            check.due("FEASTS " + c[0] + " DAY " + c[1], x.look(5), c[2] == 1 ? 0 : 1);
            check.due("drawn by FEASTS " + c[0] + " DAY " + c[1], x.look(12) == 1, c[2] == 1);
            x.quarters(1);
            check.due("spoke by FEASTS " + c[0] + " DAY " + c[1], x.look(8), c[2] == 1 ? 0 : 1);
            check.due("but made it", x.noise(0, 2), 1);
        }
    }

    /** "Feast (1, 0)": in LAWS and RULES, by night and by day, with what is owed then. */
    private static void feastsAreAsked() {
        for (int quarter : new int[] {0, 48, 95}) {
            for (int day = 0; day < 3; day++) {
                SilenceForMoney x = new SilenceForMoney();
                Check.text(x, 0, "word when feast=1;");
                Check.text(x, 2, "talk 3 when feast=1 and owes=7;talk 4 when feast=0 and owed=0;");
                x.one(1, 0, 30, 1000, 4);
                x.one(0, 0, 30, 1000, 0);
                x.debt(1, 0, 7);
                x.set(4, 2);
                x.set(6, day);
                x.set(7, quarter);
                x.quarters(1);
                boolean feast = day != 1;
                check.due("a cry is a WORD on " + day, x.noise(0, 2), feast ? 1 : 0);
                check.due("his NOISE on " + day, x.noise(1, 1), quarter != 48 ? 15 : feast ? 3 : 4);
                check.due("is a WORD on " + day, x.noise(1, 2), feast ? 1 : 0);
            }
        }
    }

    /** "A DRAW of 1000: below WHISPERS": 0 is never, 1000 always. */
    private static void whispersAtTheirEdges() {
        SilenceForMoney x = new SilenceForMoney();
        x.one(1, 0, 9, 0, 4);
        x.one(1, 0, 9, 1000, 4);
        x.one(0, 0, 9, 0, 4);
        x.one(0, 0, 9, 1000, 4);
        x.one(2, 0, 9, 1000, 4);
        for (int i = 0; i < 24; i++) {
            x.quarters(1);
            check.due("no cry", x.noise(0, 0), -1);
            check.due("a cry", x.noise(1, 0), 2);
            check.due("no whisper", x.noise(2, 0), -1);
            check.due("a whisper", x.noise(3, 0), 1);
            check.due("a mute", x.noise(4, 0), -1);
        }
        Check.Draws draws = new Check.Draws(0);
        for (int i = 0; i < 24 * 4; i++) {
            draws.of(1000);
        }
        check.due("four draws in each QUARTER", x.look(12), draws.state);
        x.quarters(1);
        draws.of(1000);
        draws.of(1000);
        check.due("by day two", x.look(12), draws.state);
    }

    /** "LOUD by 2", which goes downwards. */
    private static void loudByTwo() {
        for (int loud : new int[] {0, 1, 2, 3, 98, 99}) {
            SilenceForMoney x = new SilenceForMoney();
            x.one(0, 0, loud, 1000, 4);
            x.one(1, 0, loud, 1000, 4);
            x.quarters(1);
            check.due("a whisper of " + loud, x.noise(0, 1), loud / 2);
            check.due("a cry of " + loud, x.noise(1, 1), loud);
            check.due("it is one, though 0", x.noise(0, 0), 1);
        }
    }

    /** By night he whispers, by day he does what his RULE tells: at each edge of the night. */
    private static void nightAndDay() {
        int[][] cases = {{0, 1}, {23, 1}, {24, 0}, {47, 0}, {87, 0}, {88, 1}, {95, 1}};
        for (int[] c : cases) {
            SilenceForMoney x = new SilenceForMoney();
            Check.text(x, 2, "work 5;");
            x.one(0, 0, 40, 1000, 0);
            x.set(7, c[0]);
            x.quarters(1);
            check.due("SORT in " + c[0], x.noise(0, 0), c[1] == 1 ? 1 : 3);
            check.due("loud in " + c[0], x.noise(0, 1), c[1] == 1 ? 20 : 5);
            check.due("a draw in " + c[0], x.look(12) != 0, c[1] == 1);
        }
    }

    /** "Or of a child whose PARENT he is": the first child, the last one, the PROXY's, none of others. */
    private static void childrenOfTheWorker() {
        for (int child = 0; child < 12; child++) {
            SilenceForMoney x = new SilenceForMoney();
            int worker = child == 0 ? 1 : 0;
            for (int who = 0; who < 12; who++) {
                x.one(who == child ? 1 : 2, 0, 30, 1000, 4);
            }
            Check.text(x, 0, "word when child=1;");
            int other = (child + 2) % 12;
            x.debt(worker, other == worker ? (other + 1) % 12 : other, 9);
            x.set(0, worker);
            x.quarters(1);
            check.due("nobody's child " + child, x.of(0, 3), 1);
            x.tell(child, 5, (child + 5) % 12 == worker ? (child + 6) % 12 : (child + 5) % 12);
            x.quarters(1);
            check.due("another's child " + child, x.of(0, 3), 2);
            x.tell(child, 5, worker);
            x.quarters(1);
            check.due("his child " + child, x.of(0, 3), 0);
            check.due("told of him", x.book(0, 3), worker);
        }
    }

    /** "Of several the first". */
    private static void orderOfSeveral() {
        int[][] hours = {{5, 5, 5}, {5, 4, 4}, {4, 5, 5}, {4, 4, 5}, {5, 5, 4}, {1, 200, 1}, {200, 1, 200}};
        int[][] due = {{0, 0, 0}, {0, 1, 0}, {0, 0, 1}, {0, 0, 2}, {0, 2, 0}, {0, 0, 1}, {0, 1, 0}};
        for (int i = 0; i < hours.length; i++) {
            for (int order = 0; order < 3; order++) {
                SilenceForMoney x = Towns.grown(2);
                for (int h : hours[i]) {
                    x.debt(1, 0, h);
                }
                x.set(3, order);
                x.quarters(1);
                for (int d = 0; d < 3; d++) {
                    check.due("case " + i + " ORDER " + order + " of " + d, x.of(d, 3), d == due[i][order] ? 1 : 0);
                }
            }
        }
        for (int order = 0; order < 3; order++) {
            SilenceForMoney x = Towns.grown(2);
            for (int d = 0; d < 40; d++) {
                x.debt(1, 0, 1);
            }
            x.set(3, order);
            check.due("all forty in turn", x.quarters(160), 40);
            check.due("the last is last", x.book(79, 4), 39);
            check.due("the first is first", x.book(0, 4), 0);
        }
    }

    /** "COUNTS: .. (all since first)". */
    private static void countsAreSinceFirst() {
        SilenceForMoney x = Towns.grown(2);
        x.debt(1, 0, 200);
        x.debt(1, 0, 200);
        x.debt(1, 0, 200);
        x.quarters(960);
        check.due("240", x.look(5), 240);
        check.due("as many more", x.quarters(960), 240);
        check.due("480", x.look(5), 480);
        check.due("200 of the first", x.of(0, 7), 200);
    }

    /** Hours by one WORKER so that so many lines are written. */
    private static SilenceForMoney withLines(int lines) {
        SilenceForMoney x = Towns.grown(2);
        x.debt(1, 0, 200);
        x.debt(1, 0, 150);
        x.debt(1, 0, 200);
        x.quarters(800);
        x.quarters(600);
        check.due("two DONE", x.look(2), 352);
        x.quarters((lines - 352) * 4);
        check.due("lines", x.look(2), lines);
        return x;
    }

    /** "THE BOOK (400 lines at most; no more then)". */
    private static void bookOfFourHundred() {
        SilenceForMoney x = withLines(399);
        check.due("no 400th yet", x.book(399, 2), -1);
        x.quarters(4);
        check.due("the 400th", x.book(399, 2), 0);
        int day = x.book(399, 0);
        int quarter = x.book(399, 1);
        check.due("paid beyond it", x.quarters(8), 2);
        check.due("no more lines", x.look(2), 400);
        check.due("none behind the last", x.book(400, 0), -1);
        check.due("the last one stays", x.book(399, 0) * 100 + x.book(399, 1), day * 100 + quarter);
        check.due("the first one stays", x.book(0, 1), 51);
        check.due("COUNTS go on", x.look(5), 400);
        SilenceForMoney done = withLines(399);
        done.debt(0, 1, 1);
        done.quarters(4);
        check.due("its HOUR is the 400th line", done.book(399, 3), 0);
        check.due("its DONE is no line", done.look(2), 400);
        check.due("but it is DONE", done.look(9), 3);
        SilenceForMoney both = withLines(398);
        both.debt(0, 1, 1);
        both.quarters(4);
        check.due("its HOUR and", both.book(398, 2), 0);
        check.due("its DONE are lines", both.book(399, 2), 4);
    }

    private static void bookIsFullForAll() {
        SilenceForMoney x = withLines(400);
        Check.text(x, 0, "word when 1=1;");
        Check.text(x, 2, "talk 9;");
        x.set(7, 40);
        x.quarters(1);
        x.tell(1, 3, 0);
        x.quarters(1);
        check.due("begun again", x.look(6), 1);
        x.tell(1, 3, 4);
        x.quarters(1);
        x.set(2, 1000);
        x.quarters(1);
        check.due("a strike", x.look(6) * 10 + x.look(7), 21);
        x.tell(0, 3, 0);
        x.quarters(1);
        check.due("he SPOKE", x.look(8), 1);
        check.due("no line of all that", x.look(2), 400);
        check.due("the last is an HOUR", x.book(399, 2), 0);
    }

    /** "NONE if there is none such (4: or it is none), or another what". */
    private static void bookThatCannotBe() {
        int lines = Towns.busy().look(2);
        check.due("there are some", lines > 3, true);
        for (int i : new int[] {-1, lines, lines + 1, LEAST, MOST, MOST / 5, MOST / 5 + 1}) {
            for (int what = 0; what <= 4; what++) {
                int w = what;
                check.due("book " + i + " " + what, Towns.busy().book(i, w), -1);
            }
            busy.leaves("book " + i, -1, x -> x.book(i, 0));
        }
        for (int what : new int[] {-1, 5, LEAST, MOST}) {
            busy.leaves("book what " + what, -1, x -> x.book(0, what));
            busy.leaves("book's last line what " + what, -1, x -> x.book(lines - 1, what));
        }
        check.due("the last line", Towns.busy().book(lines - 1, 2) >= 0, true);
        check.due("no lines yet", new SilenceForMoney().book(0, 0), -1);
    }

    /** "NONE - 1 if one can't be, or another what". */
    private static void noiseThatCannotBe() {
        for (int who : new int[] {-1, 5, LEAST, MOST}) {
            for (int what = 0; what <= 2; what++) {
                int w = what;
                busy.leaves("noise of " + who + " " + what, -2, x -> x.noise(who, w));
            }
        }
        for (int what : new int[] {-1, 3, LEAST, MOST}) {
            busy.leaves("noise what " + what, -2, x -> x.noise(0, what));
            busy.leaves("noise of a mute what " + what, -2, x -> x.noise(3, what));
        }
        check.due("nobody yet", new SilenceForMoney().noise(0, 0), -2);
    }

    /** "NONE: none was made, none went by yet". */
    private static void noiseOfTheLastQuarter() {
        SilenceForMoney x = new SilenceForMoney();
        x.one(1, 0, 9, 1000, 4);
        for (int what = 0; what < 3; what++) {
            check.due("none went by yet " + what, x.noise(0, what), -1);
        }
        x.quarters(1);
        check.due("a cry", x.noise(0, 0) * 10000 + x.noise(0, 1) * 100 + x.noise(0, 2), 20900);
        check.due("a refused call", x.quarters(961), -1);
        check.due("leaves it", x.noise(0, 0), 2);
        x.tell(0, 2, 0);
        x.tell(0, 1, 50);
        check.due("as it was made", x.noise(0, 1), 9);
        x.quarters(1);
        for (int what = 0; what < 3; what++) {
            check.due("none was made " + what, x.noise(0, what), -1);
        }
        x.one(1, 0, 9, 1000, 4);
        for (int what = 0; what < 3; what++) {
            check.due("of one who came since " + what, x.noise(1, what), -1);
        }
    }

    /** "NONE for another what". */
    private static void lookThatCannotBe() {
        for (int what : new int[] {-1, 13, 14, LEAST, MOST}) {
            busy.leaves("look " + what, -1, x -> x.look(what));
        }
        SilenceForMoney x = Towns.busy();
        check.due("the first what", x.look(0), 5);
        check.due("the last what", x.look(12) != -1, true);
        check.due("the last but one", x.look(11), 3);
    }
}
