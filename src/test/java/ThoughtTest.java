/** Promises 24 to 26 and 29: whom, quiet, thought, image. */
public final class ThoughtTest {
    private static final Check check = new Check("ThoughtTest");

    public static void main(String[] args) {
        whomByNight();
        whomByDay();
        whomAsksTheLaw();
        whomBounds();
        quiet();
        quietByDraws();
        quietAtTheEdge();
        thought();
        better();
        thoughtLeavesNothing();
        image();
        imageHoldsTheBook();
        imageHoldsBargains();
        imageHoldsAll();
        check.end();
    }

    private static SilenceForMoney house() {
        SilenceForMoney x = new SilenceForMoney();
        Check.text(x, 0, "word when 1=1;");
        Check.text(x, 2, "talk 30 when 1=2;work 40 when 1=2;hush;");
        Check.text(x, 3, "work 30;");
        x.one(0, 0, 61, 1, 0);
        x.one(0, 1, 61, 0, 1);
        x.one(1, 0, 30, 1, 0);
        x.one(1, 0, 30, 0, 0);
        x.one(2, 0, 30, 1000, 0);
        x.one(0, 2, 61, 1000, 4);
        return x;
    }

    private static void whomByNight() {
        SilenceForMoney x = house();
        check.due("at place 0", x.whom(0, 1, 0, 30), 1 + 4);
        check.due("behind a wall", x.whom(0, 1, 22, 10), 32);
        check.due("at place 1", x.whom(1, 1, 5, 10), 1 + 4 + 32);
        check.due("just so loud", x.whom(0, 1, 0, 31), 0);
        x.wall(0, 2, 30);
        check.due("nothing is left of it", x.whom(0, 1, 0, 0), 32);
        x.wall(0, 2, 31);
        check.due("less than nothing", x.whom(0, 1, 0, 0), 0);
    }

    private static void whomByDay() {
        SilenceForMoney x = house();
        check.due("lines and a cry", x.whom(0, 1, 6, 30), 1 + 4);
        check.due("the second line", x.whom(0, 1, 21, 40), 1);
        check.due("work behind a wall", x.whom(0, 1, 12, 10), 2);
        check.due("work by the wall", x.whom(1, 1, 12, 30), 2);
        check.due("both by the wall", x.whom(1, 1, 12, 10), 1 + 4);
        check.due("a hush is none", x.whom(0, 1, 12, 0), 0);
        Check.text(x, 4, "talk 99;");
        x.tell(5, 3, 2);
        check.due("no work is taken for talk", x.whom(2, 1, 12, 99), 32);
        x.wall(0, 2, 99);
        check.due("all taken by the wall", x.whom(0, 1, 12, 0), 32);
        Check.text(x, 4, "work 0;");
        check.due("work 0 is no talk 100", x.whom(0, 1, 12, 1), 0);
    }

    private static void whomAsksTheLaw() {
        SilenceForMoney x = house();
        Check.text(x, 0, "word when sort=3;");
        check.due("work alone", x.whom(1, 1, 12, 30), 2);
        check.due("no talk", x.whom(0, 1, 12, 30), 0);
        check.due("but that line", x.whom(0, 1, 12, 40), 1);
        Check.text(x, 1, "word when feast=1 and hour=9 and loud=30;");
        check.due("the law in force", x.whom(0, 6, 9, 30), 0);
        x.set(5, 1);
        check.due("no feast", x.whom(0, 6, 9, 30), 0);
        x.set(4, 3);
        check.due("a feast", x.whom(0, 6, 9, 30), 1 + 4);
        check.due("loud as it is made", x.whom(1, 6, 9, 10), 1 + 4);
        check.due("another hour", x.whom(0, 6, 10, 30), 0);
        check.due("another day", x.whom(0, 7, 9, 30), 0);
        Check.text(x, 1, "word when child=1 and sort=2 or night=1 and sort=1;");
        check.due("the child", x.whom(0, 7, 9, 30), 4);
        check.due("child and whisper", x.whom(0, 7, 3, 30), 5);
    }

    private static void whomBounds() {
        SilenceForMoney x = house();
        check.due("place -1", x.whom(-1, 0, 0, 0), -1);
        check.due("place 6", x.whom(6, 0, 0, 0), -1);
        check.due("day -1", x.whom(0, -1, 0, 0), -1);
        check.due("day 10000", x.whom(0, 10000, 0, 0), -1);
        check.due("hour -1", x.whom(0, 0, -1, 0), -1);
        check.due("hour 24", x.whom(0, 0, 24, 0), -1);
        check.due("loud -1", x.whom(0, 0, 0, -1), -1);
        check.due("loud 100", x.whom(0, 0, 0, 100), -1);
        check.due("the edges", x.whom(5, 9999, 23, 99), 0);
    }

    /** One who owes to another who rings. */
    private static SilenceForMoney pair(int hours) {
        SilenceForMoney x = new SilenceForMoney();
        x.one(0, 0, 40, 0, 0);
        x.one(0, 1, 40, 0, 4);
        x.debt(0, 1, hours);
        x.set(0, 1);
        return x;
    }

    private static void quiet() {
        SilenceForMoney x = pair(3);
        check.due("m 0", x.quiet(0, 0), -1);
        check.due("m 9", x.quiet(9, 0), -1);
        check.due("what -1", x.quiet(1, -1), -1);
        check.due("what 3", x.quiet(1, 3), -1);
        check.due("the least", x.quiet(8, 0), 12);
        check.due("the greatest", x.quiet(8, 1), 12);
        check.due("how many are none", x.quiet(8, 2), 0);
        x.quarters(2);
        check.due("parts count", x.quiet(1, 0), 10);
        x.set(0, -1);
        check.due("without a ringer", x.quiet(3, 0), -1);
        check.due("no greatest", x.quiet(3, 1), -1);
        check.due("all are none", x.quiet(3, 2), 3);
        x.set(0, 0);
        x.set(4, 1);
        check.due("feasts alone", x.quiet(8, 2), 8);
        x.set(4, 2);
        check.due("a feast first", x.quiet(1, 0), 94 + 10);
    }

    private static void quietByDraws() {
        SilenceForMoney x = pair(5);
        x.set(2, 250);
        x.state(4711);
        Check.Draws draws = new Check.Draws(4711);
        // By night he draws for a whisper, too.
        int least = Integer.MAX_VALUE;
        int greatest = 0;
        for (int m = 1; m <= 8; m++) {
            int left = 5;
            int part = 0;
            int till = 0;
            for (; left > 0; till++) {
                int hour = till / 4 % 24;
                if (hour < 6 || hour >= 22) {
                    draws.of(1000);
                    draws.of(1000);
                }
                part = draws.of(1000) < 250 ? 0 : part + 1;
                if (part == 4) {
                    part = 0;
                    left--;
                }
            }
            least = Math.min(least, till);
            greatest = Math.max(greatest, till);
            check.due("least of " + m, x.quiet(m, 0), least);
            check.due("greatest of " + m, x.quiet(m, 1), greatest);
            check.due("none of " + m, x.quiet(m, 2), 0);
        }
        check.due("state stays", x.look(12), 4711);
        check.due("day stays", x.look(3) + x.look(4), 0);
        check.due("hours stay", x.look(10), 5);
    }

    private static void quietAtTheEdge() {
        SilenceForMoney x = new SilenceForMoney();
        x.one(2, 0, 0, 0, 4);
        x.one(2, 0, 0, 0, 4);
        int left = 1440;
        for (int d = 0; d < 7; d++) {
            x.debt(0, 1, 200);
        }
        x.debt(0, 1, left - 1400);
        x.set(0, 0);
        check.due("sixty days", x.quiet(1, 0), 5760);
        x.debt(0, 1, 1);
        check.due("an hour more", x.quiet(1, 0), -1);
        check.due("is none", x.quiet(2, 2), 2);
        x.set(6, 9999);
        SilenceForMoney y = pair(30);
        y.set(6, 9999);
        check.due("thoughts go on behind the last day", y.quiet(1, 0), 120);
        check.due("of laws, too", y.thought(30, 0, 0), 30);
    }

    private static void thought() {
        SilenceForMoney x = pair(200);
        Check.text(x, 2, "talk 30 when hour=12;");
        Check.text(x, 1, "word when 1=1;");
        check.due("by the empty law", x.thought(1, 0, 0), 24);
        check.due("none begun again", x.thought(1, 0, 1), 0);
        check.due("by the other", x.thought(1, 1, 0), 23);
        check.due("its first quarter had no part", x.thought(1, 1, 1), 0);
        x.quarters(2);
        x.set(7, 0);
        check.due("now it has, on the first day", x.thought(2, 1, 1), 1);
        Check.text(x, 3, "work 1 when hour=13 and quarter=0;");
        x.tell(1, 3, 1);
        check.due("he speaks once a day", x.thought(30, 1, 3), 30);
        x.quarters(20);
        check.due("what was is not counted", x.thought(1, 0, 0), 24);
        x.set(2, 1000);
        check.due("false strikes", x.thought(1, 0, 2), 96);
        check.due("less his words and theirs that are heard", x.thought(1, 1, 2), 96 - 1 - 4);
        check.due("n 0", x.thought(0, 0, 0), -1);
        check.due("n 31", x.thought(31, 0, 0), -1);
        check.due("law 2", x.thought(1, 2, 0), -1);
        check.due("law -2", x.thought(1, -2, 0), -1);
        check.due("what 4", x.thought(1, 0, 4), -1);
        check.due("what -1", x.thought(1, 0, -1), -1);
    }

    private static void better() {
        SilenceForMoney x = pair(200);
        Check.text(x, 2, "talk 30 when hour=12;");
        check.due("of both 0", x.thought(1, -1, 0), 0);
        Check.text(x, 0, "word when 1=1;");
        check.due("1 pays more", x.thought(1, -1, 9), 1);
        Check.text(x, 1, "word when 1=1;");
        check.due("alike", x.thought(1, -1, 0), 0);
        x.text(0);
        check.due("0 pays more", x.thought(1, -1, -5), 0);
        check.due("n 0", x.thought(0, -1, 0), -1);
        check.due("n 31", x.thought(31, -1, 0), -1);
        // Two debts of one hour: both are paid by either law, but by 0 one hour is begun again.
        SilenceForMoney y = pair(1);
        Check.text(y, 2, "talk 30 when hour=12 and quarter=2;");
        Check.text(y, 0, "word when 1=1;");
        y.set(7, 48);
        check.due("both pay", y.thought(1, 0, 0) + y.thought(1, 1, 0), 2);
        check.due("fewer begun again", y.thought(1, -1, 0), 1);
        Check.text(y, 1, "word when 1=1;");
        y.text(0);
        check.due("fewer by 0", y.thought(1, -1, 0), 0);
    }

    private static void thoughtLeavesNothing() {
        SilenceForMoney x = pair(9);
        x.one(1, 0, 30, 500, 4);
        x.set(2, 100);
        x.set(5, 1);
        x.state(5);
        x.quarters(5);
        long[] before = new long[13];
        for (int what = 0; what < 13; what++) {
            before[what] = x.look(what);
        }
        int noise = x.noise(2, 0);
        int part = x.of(0, 3);
        x.thought(30, 0, 0);
        x.thought(30, -1, 0);
        x.quiet(8, 0);
        for (int what = 0; what < 13; what++) {
            check.due("look " + what + " stays", x.look(what), before[what]);
        }
        check.due("noise stays", x.noise(2, 0), noise);
        check.due("part stays", x.of(0, 3), part);
        Check.text(x, 1, "word when 1=1;");
        x.tell(2, 2, 1000);
        x.quarters(1);
        check.due("the law stays in force", x.noise(2, 2), 1);
    }

    private static void image() {
        SilenceForMoney x = new SilenceForMoney();
        check.due("there is none", x.image(false), false);
        check.due("taken", x.image(true), true);
        x.one(0, 0, 0, 0, 4);
        check.due("back", x.image(false), true);
        check.due("nobody", x.look(0), 0);
        x.one(1, 3, 0, 0, 4);
        check.due("back again", x.image(false), true);
        check.due("nobody again", x.look(0), 0);
        x.one(0, 0, 0, 0, 4);
        check.due("taken anew", x.image(true), true);
        x.one(0, 0, 0, 0, 4);
        x.image(false);
        check.due("one now", x.look(0), 1);
        Check.tape(x, "hush;x");
        x.image(false);
        check.due("the tape is not of it", x.end(5), true);
        check.due("a rule", x.text(2), 1);
        Check.text(x, 2, "?");
        x.image(false);
        check.due("fault() is not of it", x.fault(0), 1);
    }

    private static void imageHoldsTheBook() {
        SilenceForMoney x = pair(9);
        x.image(true);
        x.quarters(8);
        x.tell(0, 4, 50);
        x.image(false);
        check.due("no lines", x.look(2), 0);
        check.due("no line", x.book(0, 1), -1);
        x.set(7, 1);
        x.quarters(12);
        x.image(true);
        x.image(false);
        check.due("other lines", x.book(0, 1), 4);
        x.tell(0, 4, 50);
        x.debt(1, 0, 3);
        x.set(7, 40);
        x.quarters(12);
        check.due("more lines", x.look(2), 10);
        x.image(false);
        check.due("three lines", x.look(2), 3);
        check.due("the last of them", x.book(2, 1), 12);
        SilenceForMoney y = new SilenceForMoney();
        y.image(true);
        y.one(1, 1, 1, 1, 1);
        y.tell(0, 4, 50);
        y.image(false);
        y.one(0, 0, 0, 0, 4);
        check.due("no coin of another", y.person(0, 5), 0);
        SilenceForMoney z = pair(1);
        z.image(true);
        z.quarters(4);
        z.image(false);
        z.set(0, -1);
        z.image(true);
        z.set(0, 1);
        z.set(7, 9);
        z.quarters(4);
        z.image(false);
        z.set(0, 1);
        z.quarters(4);
        check.due("its own line", z.book(0, 1), 3);
    }

    private static void imageHoldsBargains() {
        SilenceForMoney x = pair(9);
        x.one(0, 0, 0, 0, 4);
        x.lend(0, 2, 0);
        x.image(true);
        x.undo();
        x.sell(0, 2, 0);
        x.split(0, 3);
        x.image(false);
        check.due("one is kept", x.look(11), 1);
        check.due("it goes back", x.undo(), true);
        check.due("to him", x.of(0, 1), 1);
        x.image(false);
        check.due("and again", x.undo(), true);
        check.due("to him again", x.of(0, 1), 1);
        check.due("no more", x.undo(), false);
    }

    private static void imageHoldsAll() {
        SilenceForMoney x = pair(9);
        x.one(1, 2, 50, 1000, 4);
        Check.text(x, 0, "word when loud=50;");
        Check.text(x, 2, "talk 50;");
        x.set(1, 7);
        x.set(2, 5);
        x.set(3, 2);
        x.set(4, 50);
        x.set(6, 3);
        x.set(7, 30);
        x.set(17, 2);
        x.wall(0, 2, 44);
        x.tell(0, 4, 10);
        x.tell(2, 5, 0);
        x.sell(0, 1, 4);
        x.helpers(0, 3);
        x.quarters(6);
        x.image(true);
        String before = Portrait.of(x);
        x.state(1);
        x.one(0, 0, 0, 0, 4);
        Check.text(x, 0, "word when 1=1;");
        Check.text(x, 1, "word when 1=1;");
        Check.text(x, 2, "work 3;");
        x.set(0, 0);
        x.set(1, 8);
        x.set(2, 6);
        x.set(3, 1);
        x.set(4, 0);
        x.set(5, 1);
        x.set(17, 1);
        x.wall(0, 2, 4);
        x.tell(0, 0, 5);
        x.tell(0, 3, 4);
        x.tell(2, 1, 5);
        x.tell(2, 2, 5);
        x.tell(2, 5, -1);
        x.undo();
        x.split(0, 2);
        x.debt(1, 0, 4);
        x.helpers(0, 0);
        x.quarters(77);
        x.image(false);
        check.due("all is as it was", Portrait.of(x).equals(before), true);
        x.quarters(77);
        String on = Portrait.of(x);
        x.undo();
        x.image(false);
        x.quarters(77);
        check.due("all goes on alike", Portrait.of(x).equals(on), true);
    }
}
