import java.util.List;
import java.util.function.ToLongFunction;

/** The boundaries that promises 24 to 26 and 29 and their Terms name, on both sides of each. */
public final class ThoughtEdgesTest {
    private static final Check check = new Check("ThoughtEdgesTest");
    private static final Twins busy = new Twins(check, Towns::busy);
    private static final int LEAST = Integer.MIN_VALUE;
    private static final int MOST = Integer.MAX_VALUE;

    public static void main(String[] args) {
        whomThatCannotBe();
        whomAtItsEdges();
        whomJustSoLoud();
        whomByNightAndDay();
        whomNeedsWhispers();
        whomNeedsAWord();
        whomOnFeasts();
        quietThatCannotBe();
        quietWithoutDebts();
        quietInSixtyDays();
        quietOfSomeNights();
        quietNever();
        quietStaysAThought();
        thoughtThatCannotBe();
        thoughtAtItsEdges();
        thoughtAcrossTheLastDay();
        thoughtWithALaw();
        betterOfBoth();
        imageThatIsNone();
        imageMoreThanOnce();
        imageHoldsEach();
        imageHoldsBargainsThemselves();
        imageWithoutTapeAndFault();
        imageOfAFullBook();
        imageOfSixtyBargains();
        check.end();
    }

    private static void whomThatCannotBe() {
        for (int v : new int[] {-1, 6, LEAST, MOST}) {
            busy.leaves("whom at PLACE " + v, -1, x -> x.whom(v, 1, 12, 30));
        }
        for (int v : new int[] {-1, 10000, LEAST, MOST}) {
            busy.leaves("whom on DAY " + v, -1, x -> x.whom(0, v, 12, 30));
        }
        for (int v : new int[] {-1, 24, LEAST, MOST}) {
            busy.leaves("whom in HOUR " + v, -1, x -> x.whom(0, 1, v, 30));
        }
        for (int v : new int[] {-1, 100, LEAST, MOST}) {
            busy.leaves("whom so loud " + v, -1, x -> x.whom(0, 1, 12, v));
        }
    }

    /** "A set": the first and the last of PEOPLE; PLACES, DAYS, HOURS, loud at their edges. */
    private static void whomAtItsEdges() {
        SilenceForMoney x = new SilenceForMoney();
        Check.text(x, 0, "word when 1=1;");
        for (int who = 0; who < 12; who++) {
            x.one(1, who == 0 || who == 11 ? 5 : 0, who < 6 ? 99 : 0, 1000, 4);
        }
        check.due("the first", x.whom(5, 0, 0, 99), 1);
        check.due("the last", x.whom(5, 9999, 23, 0), 2048);
        check.due("at PLACE 0, loudest", x.whom(0, 9999, 23, 99), 62);
        check.due("at PLACE 0, softest", x.whom(0, 0, 0, 0), 1984);
        check.due("nobody", x.whom(0, 0, 0, 50), 0);
        check.due("of no PEOPLE", new SilenceForMoney().whom(0, 0, 0, 0), 0);
    }

    /** "That comes there just so loud": neither louder nor softer, not by what a WALL takes all of. */
    private static void whomJustSoLoud() {
        for (int wall : new int[] {0, 1, 39, 40, 41, 99}) {
            SilenceForMoney x = new SilenceForMoney();
            Check.text(x, 0, "word when loud=40;");
            x.one(1, 0, 40, 1, 4);
            x.wall(0, 1, wall);
            int left = 40 - wall;
            for (int loud = Math.max(0, left - 1); loud <= Math.max(0, left) + 1; loud++) {
                check.due("WALL " + wall + " leaves " + loud, x.whom(1, 0, 0, loud), loud == left ? 1 : 0);
            }
            check.due("within", x.whom(0, 0, 0, 40), 1);
            check.due("softer within", x.whom(0, 0, 0, 39), 0);
            check.due("louder within", x.whom(0, 0, 0, 41), 0);
        }
    }

    /** By night LOUD by 2, by day N of some line: in the HOURS at each edge of the night. */
    private static void whomByNightAndDay() {
        SilenceForMoney x = new SilenceForMoney();
        Check.text(x, 0, "word when sort<3;");
        Check.text(x, 1, "word when sort=3;");
        Check.text(x, 2, "talk 0 when 1=2;talk 99 when 1=2;work 50 when 1=2;hush;");
        x.one(0, 0, 61, 1, 0);
        int[][] cases = {{0, 1}, {5, 1}, {6, 0}, {21, 0}, {22, 1}, {23, 1}};
        for (int[] c : cases) {
            boolean night = c[1] == 1;
            check.due("whisper in " + c[0], x.whom(0, 0, c[0], 30), night ? 1 : 0);
            check.due("upwards in " + c[0], x.whom(0, 0, c[0], 31), 0);
            check.due("talk 0 in " + c[0], x.whom(0, 0, c[0], 0), night ? 0 : 1);
            check.due("talk 99 in " + c[0], x.whom(0, 0, c[0], 99), night ? 0 : 1);
            check.due("work is no WORD in " + c[0], x.whom(0, 0, c[0], 50), 0);
            x.set(5, 1);
            check.due("work is by LAW 1 in " + c[0], x.whom(0, 0, c[0], 50), night ? 0 : 1);
            check.due("talk is not in " + c[0], x.whom(0, 0, c[0], 99), 0);
            x.set(5, 0);
        }
        x.tell(0, 3, 4);
        check.due("without a RULE", x.whom(0, 0, 12, 0), 0);
        x.tell(0, 3, 3);
        check.due("by an empty RULE", x.whom(0, 0, 12, 0), 0);
        sixteenthLine();
    }

    private static void sixteenthLine() {
        SilenceForMoney x = new SilenceForMoney();
        Check.text(x, 0, "word when 1=1;");
        x.one(0, 0, 0, 0, 3);
        Check.text(x, 5, "hush;".repeat(15) + "work 77;");
        check.due("the last line", x.whom(0, 0, 12, 77), 1);
        check.due("none like it", x.whom(0, 0, 12, 78), 0);
    }

    /** "(with WHISPERS above 0)": 0 and 1; of talk and work it is not asked. */
    private static void whomNeedsWhispers() {
        for (int whispers = 0; whispers <= 1; whispers++) {
            SilenceForMoney x = new SilenceForMoney();
            Check.text(x, 0, "word when 1=1;");
            Check.text(x, 2, "talk 40;");
            x.one(1, 0, 40, whispers, 0);
            x.one(0, 0, 80, whispers, 0);
            x.one(2, 0, 40, whispers, 0);
            check.due("by night, WHISPERS " + whispers, x.whom(0, 0, 3, 40), whispers * 3);
            check.due("by day, WHISPERS " + whispers, x.whom(0, 0, 12, 40), whispers + 2);
        }
    }

    /** "A NOISE, which is a WORD": by its SORT, and by whether a child makes it. */
    private static void whomNeedsAWord() {
        String[] laws = {"sort=0", "sort=1", "sort=2", "sort=3", "child=1", "child=0", "1=2"};
        int[] night = {0, 2, 1, 0, 1, 2, 0};
        int[] day = {2, 0, 1, 4, 1, 6, 0};
        for (int i = 0; i < laws.length; i++) {
            SilenceForMoney x = new SilenceForMoney();
            Check.text(x, 0, "word when " + laws[i] + ";");
            Check.text(x, 2, "talk 40;");
            Check.text(x, 3, "work 40;");
            x.one(1, 0, 40, 1, 0);
            x.one(0, 0, 80, 1, 0);
            x.one(0, 0, 40, 1, 1);
            check.due("by night with " + laws[i], x.whom(0, 0, 3, 40), night[i]);
            check.due("by day with " + laws[i], x.whom(0, 0, 12, 40), day[i]);
        }
    }

    private static void whomOnFeasts() {
        SilenceForMoney x = new SilenceForMoney();
        Check.text(x, 0, "word when feast=1;");
        Check.text(x, 1, "word when feast=0;");
        x.one(1, 0, 40, 1, 4);
        int[][] cases = {{0, 0, 0}, {1, 9999, 1}, {99, 0, 1}, {99, 98, 0}, {99, 99, 1}, {99, 9999, 1}, {2, 9999, 0}};
        for (int[] c : cases) {
            x.set(4, c[0]);
            x.set(5, 0);
            check.due("a FEAST " + c[0] + " " + c[1], x.whom(0, c[1], 12, 40), c[2]);
            x.set(5, 1);
            check.due("none " + c[0] + " " + c[1], x.whom(0, c[1], 12, 40), 1 - c[2]);
        }
    }

    /** "By NIGHTS m (1 .. 8)", "NONE if one can't be, or another what". */
    private static void quietThatCannotBe() {
        for (int m : new int[] {0, -1, 9, LEAST, MOST}) {
            for (int what = 0; what < 3; what++) {
                int w = what;
                busy.leaves("quiet by " + m + " what " + what, -1, x -> x.quiet(m, w));
            }
        }
        for (int what : new int[] {-1, 3, LEAST, MOST}) {
            busy.leaves("quiet what " + what, -1, x -> x.quiet(1, what));
        }
        for (int m = 1; m <= 8; m++) {
            SilenceForMoney x = Towns.grown(2);
            x.debt(1, 0, 3);
            check.due("least by " + m, x.quiet(m, 0), 12);
            check.due("greatest by " + m, x.quiet(m, 1), 12);
            check.due("none by " + m, x.quiet(m, 2), 0);
            x.set(0, -1);
            check.due("all none by " + m, x.quiet(m, 2), m);
        }
    }

    /** "How many QUARTERS (0 .. 5760)": 0 with none to be paid. */
    private static void quietWithoutDebts() {
        SilenceForMoney x = Towns.grown(2);
        x.set(0, -1);
        for (int what = 0; what < 3; what++) {
            check.due("without DEBTS " + what, x.quiet(8, what), 0);
        }
        x.set(4, 1);
        check.due("on a FEAST, too", x.quiet(1, 0), 0);
        x.set(4, 0);
        x.set(0, 0);
        x.debt(1, 0, 1);
        x.quarters(3);
        check.due("a QUARTER is lacking", x.quiet(1, 0), 1);
        x.quarters(1);
        for (int what = 0; what < 3; what++) {
            check.due("all are DONE " + what, x.quiet(8, what), 0);
        }
    }

    /** "NONE if they are not in 60 DAYS": 5759, 5760, 5761. */
    private static void quietInSixtyDays() {
        for (int parts = 0; parts < 4; parts++) {
            SilenceForMoney x = Towns.grown(2);
            for (int d = 0; d < 7; d++) {
                x.debt(1, 0, 200);
            }
            x.debt(1, 0, 40);
            if (parts > 0) {
                x.quarters(parts);
            }
            check.due("1440 HOURS, PART " + parts, x.quiet(1, 0), 5760 - parts);
            check.due("greatest", x.quiet(2, 1), 5760 - parts);
            x.debt(1, 0, 1);
            boolean never = 5764 - parts > 5760;
            check.due("one more, PART " + parts, x.quiet(1, 0), never ? -1 : 5764 - parts);
            check.due("how many are none", x.quiet(8, 2), never ? 8 : 0);
        }
        SilenceForMoney y = feastFirst();
        check.due("5760 with a FEAST first", y.quiet(1, 0), 5760);
        y.set(7, 95);
        check.due("the FEAST is over sooner", y.quiet(1, 0), 5760 - 95);
        SilenceForMoney z = feastFirst();
        z.debt(1, 0, 1);
        check.due("an HOUR more", z.quiet(1, 0), -1);
    }

    /** The first of the sixty DAYS is a FEAST, the next one comes behind them. */
    private static SilenceForMoney feastFirst() {
        SilenceForMoney x = Towns.grown(2);
        x.set(4, 80);
        x.set(6, 80);
        x.set(7, 0);
        for (int d = 0; d < 7; d++) {
            x.debt(1, 0, 200);
        }
        x.debt(1, 0, 16);
        return x;
    }

    /** "The least, the greatest, how many are none", when some are and some are not. */
    private static void quietOfSomeNights() {
        boolean some = false;
        for (int seed = 0; seed < 4; seed++) {
            SilenceForMoney x = new SilenceForMoney();
            x.one(2, 0, 0, 0, 4);
            x.one(2, 0, 0, 0, 4);
            for (int d = 0; d < 7; d++) {
                x.debt(0, 1, 200);
            }
            x.debt(0, 1, 36);
            x.set(0, 1);
            x.set(2, 1);
            x.state(seed * 999331);
            Check.Draws draws = new Check.Draws(seed * 999331);
            int least = -1;
            int greatest = -1;
            int none = 0;
            for (int m = 1; m <= 8; m++) {
                int till = strikesTill(draws, 1436);
                none += till < 0 ? 1 : 0;
                least = till >= 0 && (least < 0 || till < least) ? till : least;
                greatest = Math.max(greatest, till);
                check.due("least of " + m, x.quiet(m, 0), least);
                check.due("greatest of " + m, x.quiet(m, 1), greatest);
                check.due("none of " + m, x.quiet(m, 2), none);
            }
            some |= none > 0 && least > 0;
        }
        check.due("some are none and some are not", some, true);
    }

    private static int strikesTill(Check.Draws draws, int hours) {
        int left = hours;
        int part = 0;
        for (int quarter = 1; quarter <= 5760; quarter++) {
            part = draws.of(1000) < 1 ? 0 : part + 1;
            if (part == 4) {
                part = 0;
                left--;
            }
            if (left == 0) {
                return quarter;
            }
        }
        return -1;
    }

    /** "0 the least (NONE: never), 1 the greatest of those that are (NONE)". */
    private static void quietNever() {
        SilenceForMoney x = Towns.grown(2);
        x.debt(1, 0, 1);
        x.set(2, 1000);
        check.due("never", x.quiet(8, 0), -1);
        check.due("no greatest", x.quiet(8, 1), -1);
        check.due("all are none", x.quiet(8, 2), 8);
        x.set(2, 0);
        x.set(4, 1);
        check.due("FEASTS alone", x.quiet(8, 0), -1);
        x.set(4, 0);
        Check.text(x, 0, "word when 1=1;");
        Check.text(x, 2, "talk 1;");
        x.tell(0, 3, 0);
        check.due("he speaks by day", x.quiet(1, 0), 44);
        x.tell(0, 2, 1000);
        check.due("and by night", x.quiet(1, 0), -1);
    }

    /** "Nothing of it stays, STATE too". */
    private static void quietStaysAThought() {
        for (int m = 1; m <= 8; m += 7) {
            for (int what = 0; what < 3; what++) {
                int n = m;
                int w = what;
                busy.leaves("quiet " + m + " " + what, Towns.busy().quiet(m, what), x -> x.quiet(n, w));
            }
        }
        for (int n : new int[] {1, 30}) {
            for (int law = -1; law < 2; law++) {
                int l = law;
                busy.leaves("thought " + n + " " + law, Towns.busy().thought(n, law, 0), x -> x.thought(n, l, 0));
            }
        }
        busy.leaves("soonest", Towns.busy().soonest(0), x -> x.soonest(0));
        busy.leaves("whom", Towns.busy().whom(0, 1, 12, 30), x -> x.whom(0, 1, 12, 30));
        busy.leaves("does", Towns.busy().does(0), x -> x.does(0));
    }

    /** "IN THOUGHT n DAYS (1 .. 30 ..)", "NONE if one can't be, or another what". */
    private static void thoughtThatCannotBe() {
        for (int n : new int[] {0, -1, 31, LEAST, MOST}) {
            for (int law = -1; law < 2; law++) {
                int l = law;
                busy.leaves("thought of " + n + " by " + law, -1, x -> x.thought(n, l, 0));
            }
        }
        for (int law : new int[] {-2, 2, LEAST, MOST}) {
            busy.leaves("thought by " + law, -1, x -> x.thought(1, law, 0));
        }
        for (int what : new int[] {-1, 4, LEAST, MOST}) {
            busy.leaves("thought by 0 what " + what, -1, x -> x.thought(1, 0, what));
            busy.leaves("thought by 1 what " + what, -1, x -> x.thought(1, 1, what));
            int better = Towns.busy().thought(1, -1, 0);
            check.due("BETTER is one of both", better == 0 || better == 1, true);
            busy.leaves("BETTER asks no what " + what, better, x -> x.thought(1, -1, what));
        }
    }

    /** "From this QUARTER on so many times 96". */
    private static void thoughtAtItsEdges() {
        for (int quarter : new int[] {0, 1, 95}) {
            for (int n : new int[] {1, 2, 29, 30}) {
                SilenceForMoney x = Towns.grown(2);
                Check.text(x, 0, "word when loud=8;");
                Check.text(x, 2, "talk 8 when hour=12 and quarter=0;");
                x.tell(0, 3, 0);
                for (int d = 0; d < 5; d++) {
                    x.debt(1, 0, 200);
                }
                x.set(7, quarter);
                check.due("paid in " + n + " DAYS", x.thought(n, 1, 0), 24 * n);
                check.due("SPOKE in " + n + " DAYS", x.thought(n, 0, 3), n);
                check.due("paid then", x.thought(n, 0, 0), (95 * n) / 4);
                x.set(2, 1000);
                check.due("strikes in " + n + " DAYS", x.thought(n, 1, 2), 96 * n);
            }
        }
    }

    /** A thought is no DAY that is told: it goes on behind 9999. */
    private static void thoughtAcrossTheLastDay() {
        SilenceForMoney x = Towns.grown(2);
        x.debt(1, 0, 200);
        x.set(6, 9999);
        x.set(7, 95);
        check.due("two DAYS", x.thought(2, 0, 0), 48);
        check.due("till quiet", x.quiet(1, 0), 800);
        check.due("DAY stays", x.look(3) * 100 + x.look(4), 999995);
        check.due("no QUARTER can be", x.quarters(1), -1);
    }

    /** "With a LAW in force": the one that is told, not the one that is. */
    private static void thoughtWithALaw() {
        for (int force = 0; force < 2; force++) {
            SilenceForMoney x = Towns.grown(2);
            Check.text(x, 1, "word when 1=1;");
            Check.text(x, 2, "talk 9 when hour=12 and quarter=2;");
            x.tell(1, 3, 0);
            x.debt(1, 0, 200);
            x.set(5, force);
            x.set(7, 48);
            check.due("by LAW 0 paid", x.thought(1, 0, 0), 24);
            check.due("by LAW 0 begun again", x.thought(1, 0, 1), 0);
            check.due("by LAW 1 paid", x.thought(1, 1, 0), 23);
            check.due("by LAW 1 begun again", x.thought(1, 1, 1), 1);
            check.due("BETTER", x.thought(1, -1, 0), 0);
            x.quarters(8);
            check.due("what was is not counted", x.thought(1, 0, 0), 24);
        }
        SilenceForMoney y = Towns.grown(2);
        Check.text(y, 0, "word when 1=1;");
        Check.text(y, 2, "talk 9 when hour<14;");
        y.tell(0, 3, 0);
        y.debt(1, 0, 200);
        y.quarters(9);
        check.due("he SPOKE", y.look(8), 8);
        check.due("which is not counted", y.thought(1, 0, 3), 32);
        check.due("nor by the other", y.thought(1, 1, 3), 0);
    }

    /** "More HOURS are paid, then fewer begun again; of both 0". */
    private static void betterOfBoth() {
        check.due("alike", better("1=1", "1=1", 200), 0);
        check.due("1 pays more", better("loud=9", "1=2", 200), 1);
        check.due("0 pays more", better("1=2", "loud=9", 200), 0);
        check.due("alike paid, 1 begins fewer again", better("loud=9", "1=2", 1), 1);
        check.due("alike paid, 0 begins fewer again", better("1=2", "loud=9", 1), 0);
        // By that of 9 more HOURS are paid, though two are begun again.
        check.due("paid is asked first", betterPays("loud=7", "loud=9"), 1);
        check.due("either way", betterPays("loud=9", "loud=7"), 0);
    }

    private static int better(String b0, String b1, int hours) {
        SilenceForMoney x = Towns.grown(2);
        Check.text(x, 0, "word when " + b0 + ";");
        Check.text(x, 1, "word when " + b1 + ";");
        Check.text(x, 2, "talk 9 when hour=12 and quarter=2;");
        x.tell(1, 3, 0);
        x.debt(1, 0, hours);
        return x.thought(1, -1, 0);
    }

    /** Seven HOURS of talk 7 while nothing is begun, then talk 9 twice in the middle of an HOUR. */
    private static int betterPays(String b0, String b1) {
        SilenceForMoney x = Towns.grown(2);
        Check.text(x, 0, "word when " + b0 + ";");
        Check.text(x, 1, "word when " + b1 + ";");
        Check.text(x, 2, "talk 9 when quarter=2 and(hour=19 or hour=20);talk 7 when hour>11 and hour<19;");
        x.tell(1, 3, 0);
        x.debt(1, 0, 200);
        check.due("7 begins fewer again", x.thought(1, b0.equals("loud=7") ? 0 : 1, 1)
            < x.thought(1, b0.equals("loud=7") ? 1 : 0, 1), true);
        return x.thought(1, -1, 0);
    }

    /** "False if there is none". */
    private static void imageThatIsNone() {
        Twins none = new Twins(check, ThoughtEdgesTest::withoutImage);
        none.refuses("gone back to none", x -> x.image(false));
        SilenceForMoney x = withoutImage();
        check.due("taken", x.image(true), true);
        check.due("gone back to", x.image(false), true);
        SilenceForMoney y = new SilenceForMoney();
        check.due("of a new object", y.image(false), false);
        check.due("taken of it", y.image(true), true);
        y.one(0, 0, 0, 0, 4);
        check.due("back to nobody", y.image(false) && y.look(0) == 0, true);
    }

    private static SilenceForMoney withoutImage() {
        SilenceForMoney x = Towns.grown(3);
        x.debt(1, 2, 4);
        x.lend(0, 0, 5);
        x.quarters(5);
        Check.tape(x, "hush");
        return x;
    }

    /** "As it was when it was taken; gone back to it may be more than once". */
    private static void imageMoreThanOnce() {
        SilenceForMoney x = withoutImage();
        x.image(true);
        String taken = Portrait.of(withoutImage());
        for (int i = 0; i < 3; i++) {
            x.quarters(50 + i);
            x.undo();
            x.one(i, i, i, i, i);
            x.debt(0, 1, 7);
            x.sell(0, 1, 1);
            x.state(i);
            check.due("gone back to", x.image(false), true);
            check.due("as it was, time " + i, Portrait.of(x), taken);
        }
        SilenceForMoney y = withoutImage();
        y.image(true);
        y.quarters(3);
        y.image(true);
        y.quarters(9);
        y.image(false);
        check.due("the latest one", y.look(4), 48 + 5 + 3);
        y.image(false);
        check.due("the latest one again", y.look(4), 48 + 5 + 3);
    }

    /** "All that is and was told": each thing for itself, where it is seen to matter. */
    private static void imageHoldsEach() {
        Twins plain = new Twins(check, ThoughtEdgesTest::talkative);
        List<ToLongFunction<SilenceForMoney>> told = List.of(x -> x.state(99), x -> x.one(0, 0, 1, 1, 0),
            x -> one(x.tell(1, 0, 2)), x -> one(x.tell(2, 1, 5)), x -> one(x.tell(2, 2, 0)), x -> one(x.tell(1, 3, 4)),
            x -> one(x.tell(1, 4, 5)), x -> one(x.tell(2, 5, -1)), x -> one(x.wall(0, 1, 40)), x -> one(x.set(0, -1)),
            x -> one(x.set(1, 60)), x -> one(x.set(2, 900)), x -> one(x.set(3, 1)), x -> one(x.set(4, 1)),
            x -> one(x.set(5, 1)), x -> one(x.set(6, 5)), x -> one(x.set(7, 90)), x -> one(x.set(22, 5)),
            x -> one(x.set(23, 5)), x -> x.debt(0, 1, 9), x -> one(x.helpers(1, 3)),
            x -> Check.text(x, 0, "word when 1=2;"), x -> Check.text(x, 1, "word when 1=2;"),
            x -> Check.text(x, 2, "work 1;"), x -> x.quarters(1), x -> x.quarters(30), x -> one(x.lend(1, 3, 4)),
            x -> x.split(1, 1), x -> x.inherit(1, 3), x -> one(x.sell(1, 3, 4)), x -> one(x.undo()));
        for (int i = 0; i < told.size(); i++) {
            ToLongFunction<SilenceForMoney> tell = told.get(i);
            plain.changes("what is told as " + i, tell.applyAsLong(talkative()), tell);
            plain.leaves("gone back from " + i, 1, x -> {
                tell.applyAsLong(x);
                return one(x.image(false));
            });
        }
    }

    private static int one(boolean answer) {
        return answer ? 1 : 0;
    }

    /** An object in which a small change of anything is seen soon; its image is of just now. */
    private static SilenceForMoney talkative() {
        SilenceForMoney x = new SilenceForMoney();
        x.one(0, 0, 60, 500, 4);
        x.one(0, 1, 60, 500, 0);
        x.one(1, 1, 30, 500, 4);
        x.one(0, 1, 60, 0, 4);
        Check.text(x, 0, "word when loud>8;");
        Check.text(x, 1, "word when sort=0;");
        Check.text(x, 2, "talk 27 when hour=12 and quarter=2 or hour=15;talk 4 when owed>1;hush;");
        for (int who = 0; who < 4; who++) {
            x.tell(who, 4, 50);
        }
        x.tell(2, 5, 1);
        x.debt(1, 0, 4);
        x.debt(1, 3, 3);
        x.debt(3, 1, 5);
        x.wall(1, 5, 40);
        x.set(0, 0);
        x.set(2, 20);
        x.set(6, 1);
        x.set(7, 49);
        x.state(12);
        x.lend(1, 0, 3);
        x.quarters(2);
        x.image(true);
        return x;
    }

    /** BARGAINS that were made since are gone, those that were undone since are there again. */
    private static void imageHoldsBargainsThemselves() {
        SilenceForMoney x = Towns.grown(4);
        x.debt(0, 1, 9);
        x.lend(0, 2, 30);
        x.image(true);
        x.undo();
        x.sell(0, 3, 70);
        x.image(false);
        check.due("its creditor", x.of(0, 1), 2);
        check.due("its PROXY", x.of(0, 4), -1);
        check.due("COIN of both", x.person(1, 5) * 1000 + x.person(2, 5), 130070);
        check.due("undo", x.undo(), true);
        check.due("the creditor ahead", x.of(0, 1), 1);
        check.due("COIN goes back", x.person(1, 5) * 1000 + x.person(2, 5), 100100);
        check.due("no COIN of what is gone", x.person(0, 5) * 1000 + x.person(3, 5), 100100);
        check.due("no more", x.undo(), false);
    }

    /** "All .. but the TAPE and fault()". */
    private static void imageWithoutTapeAndFault() {
        SilenceForMoney x = new SilenceForMoney();
        Check.tape(x, "hush;");
        x.image(true);
        x.end(4);
        x.image(false);
        check.due("the TAPE is not longer again", x.end(5), false);
        check.due("a FAULT", x.text(2), -1);
        x.image(false);
        check.due("stays told", x.fault(0) * 10 + x.fault(1), 14);
        x.image(true);
        x.text(2);
        x.image(false);
        check.due("none stays told, too", x.fault(0) * 10 + x.fault(1), -1);
        Check.tape(x, "talk 5;");
        x.image(true);
        check.due("taking it leaves the TAPE", x.text(2), 1);
        x.one(0, 0, 0, 0, 0);
        check.due("the RULE is new", x.does(0), 6);
        x.image(false);
        x.one(0, 0, 0, 0, 0);
        check.due("and old again", x.does(0), 0);
    }

    private static void imageOfAFullBook() {
        SilenceForMoney x = Towns.grown(2);
        x.debt(1, 0, 200);
        x.debt(1, 0, 199);
        x.quarters(960);
        x.quarters(636);
        check.due("full but for none", x.look(2), 400);
        x.image(true);
        SilenceForMoney y = Towns.grown(2);
        y.image(true);
        y.debt(1, 0, 200);
        y.debt(1, 0, 200);
        y.quarters(960);
        y.image(false);
        check.due("empty again", y.look(2) + y.look(1), 0);
        check.due("no line", y.book(0, 0), -1);
        x.image(false);
        check.due("the last line is there", x.book(399, 4), 1);
        check.due("full", x.look(2), 400);
        x.debt(0, 1, 1);
        x.quarters(4);
        check.due("no more", x.look(2), 400);
    }

    private static void imageOfSixtyBargains() {
        SilenceForMoney x = Towns.grown(3);
        x.debt(0, 1, 200);
        for (int i = 0; i < 60; i++) {
            x.sell(0, i % 2 + 1, 1);
        }
        x.image(true);
        for (int i = 0; i < 60; i++) {
            x.undo();
        }
        check.due("all undone", x.look(11), 0);
        check.due("his COIN", x.person(0, 5), 100);
        x.image(false);
        check.due("all are kept again", x.look(11), 60);
        check.due("paid again", x.person(0, 5), 40);
        for (int i = 0; i < 60; i++) {
            check.due("undo " + i, x.undo(), true);
        }
        check.due("no more", x.undo(), false);
        check.due("his COIN again", x.person(0, 5), 100);
    }
}
