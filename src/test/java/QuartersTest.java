/** Promises 16, 17, 28 and 30: quarters, noise, book, look. */
public final class QuartersTest {
    private static final Check check = new Check("QuartersTest");

    public static void main(String[] args) {
        bounds();
        sortsOfNoise();
        drawsInOrder();
        drawsAtTheEdge();
        nothingWithoutRinger();
        feasts();
        spoke();
        order();
        heardByWalls();
        childrenOfTheWorker();
        proxyWorks();
        falseStrikes();
        ringerMayWork();
        bookIsFull();
        book();
        look();
        check.end();
    }

    private static void bounds() {
        SilenceForMoney x = new SilenceForMoney();
        check.due("0", x.quarters(0), -1);
        check.due("-1", x.quarters(-1), -1);
        check.due("961", x.quarters(961), -1);
        check.due("960", x.quarters(960), 0);
        check.due("ten days", x.look(3), 10);
        check.due("quarter 0", x.look(4), 0);
        x.quarters(95);
        check.due("the 95th", x.look(4), 95);
        x.quarters(1);
        check.due("behind it", x.look(4), 0);
        check.due("a day more", x.look(3), 11);
        x.set(6, 9999);
        check.due("a day of it", x.quarters(96), -1);
        check.due("nothing done", x.look(4), 0);
        check.due("one less", x.quarters(95), 0);
        check.due("the last day", x.look(3), 9999);
        check.due("the last quarter", x.look(4), 95);
        check.due("no more", x.quarters(1), -1);
        x.set(6, 9990);
        x.set(7, 0);
        check.due("ten days too many", x.quarters(960), -1);
        check.due("one less than ten days", x.quarters(959), 0);
    }

    private static void sortsOfNoise() {
        SilenceForMoney x = new SilenceForMoney();
        Check.text(x, 0, "word when sort=1 or child=1 or sort=0 and loud=8;");
        Check.text(x, 2, "talk 8;");
        Check.text(x, 3, "work 9;");
        x.one(0, 0, 31, 1000, 0);
        x.one(0, 0, 31, 1000, 1);
        x.one(1, 0, 31, 1000, 0);
        x.one(2, 0, 31, 1000, 0);
        x.one(0, 0, 31, 0, 0);
        check.due("none went by yet", x.noise(0, 0), -1);
        x.quarters(1);
        long[][] night = {{1, 15, 1}, {1, 15, 1}, {2, 31, 1}, {-1, -1, -1}, {-1, -1, -1}};
        long[][] day = {{0, 8, 1}, {3, 9, 0}, {2, 31, 1}, {-1, -1, -1}, {0, 8, 1}};
        compare(x, night, "night");
        x.set(7, 24);
        x.quarters(1);
        compare(x, day, "day");
        Check.text(x, 2, "work 0;");
        Check.text(x, 3, "talk 0;");
        x.quarters(1);
        check.due("work 0 is work", x.noise(0, 0), 3);
        check.due("so loud", x.noise(0, 1), 0);
        check.due("talk 0 is talk", x.noise(1, 0), 0);
        check.due("so loud, too", x.noise(1, 1), 0);
        Check.text(x, 2, "talk 99;");
        Check.text(x, 3, "work 99;");
        x.quarters(1);
        check.due("talk 99 is talk", x.noise(0, 0), 0);
        check.due("as loud as can be", x.noise(0, 1), 99);
        check.due("work 99 is work", x.noise(1, 0), 3);
        check.due("as loud, too", x.noise(1, 1), 99);
        Check.text(x, 2, "talk 8;");
        x.quarters(1);
        check.due("what 3", x.noise(0, 3), -2);
        check.due("what -1", x.noise(0, -1), -2);
        check.due("nobody", x.noise(5, 0), -2);
        check.due("below", x.noise(-1, 0), -2);
        x.one(0, 0, 31, 0, 0);
        check.due("one who came later", x.noise(5, 0), -1);
        x.text(0);
        check.due("a word as the law was then", x.noise(0, 2), 1);
    }

    private static void compare(SilenceForMoney x, long[][] want, String when) {
        for (int who = 0; who < want.length; who++) {
            for (int what = 0; what < 3; what++) {
                check.due(when + " noise " + who + " " + what, x.noise(who, what), want[who][what]);
            }
        }
    }

    private static void drawsInOrder() {
        SilenceForMoney x = new SilenceForMoney();
        x.state(12345);
        Check.Draws draws = new Check.Draws(12345);
        x.one(1, 0, 30, 500, 4);
        x.one(0, 0, 30, 300, 4);
        x.one(2, 0, 30, 999, 4);
        x.one(1, 0, 30, 0, 4);
        x.set(7, 20);
        for (int quarter = 20; quarter < 90; quarter++) {
            boolean night = quarter < 24 || quarter >= 88;
            x.quarters(1);
            check.due("cry in " + quarter, x.noise(0, 0), draws.of(1000) < 500 ? 2 : -1);
            if (night) {
                check.due("whisper in " + quarter, x.noise(1, 0), draws.of(1000) < 300 ? 1 : -1);
            }
            draws.of(1000);
            check.due("state in " + quarter, x.look(12), draws.state);
        }
    }

    /** A DRAW that is just WHISPERS or FALSE is not below it. */
    private static void drawsAtTheEdge() {
        for (int state = 1; state < 40; state++) {
            int drawn = new Check.Draws(state).of(1000);
            for (int more = 0; more < 2; more++) {
                SilenceForMoney x = new SilenceForMoney();
                x.one(1, 0, 30, drawn + more, 4);
                x.state(state);
                x.quarters(1);
                check.due("cry at the edge", x.noise(0, 0), more == 1 ? 2 : -1);
                SilenceForMoney y = new SilenceForMoney();
                y.one(0, 0, 30, drawn + more, 4);
                y.state(state);
                y.quarters(1);
                check.due("whisper at the edge", y.noise(0, 0), more == 1 ? 1 : -1);
                SilenceForMoney z = pair(3);
                z.set(0, 1);
                z.set(2, drawn + more);
                z.state(state);
                z.quarters(1);
                check.due("strike at the edge", z.look(7), drawn + more > 0 && more == 1 ? 1 : 0);
            }
        }
    }

    /** Two grown ones and a debt of the first to the second. */
    private static SilenceForMoney pair(int hours) {
        SilenceForMoney x = new SilenceForMoney();
        x.one(0, 0, 40, 0, 0);
        x.one(0, 1, 40, 0, 4);
        x.debt(0, 1, hours);
        x.set(7, 48);
        return x;
    }

    private static void nothingWithoutRinger() {
        SilenceForMoney x = pair(3);
        check.due("without a ringer", x.quarters(8), 0);
        check.due("no part", x.of(0, 3), 0);
        x.set(0, 1);
        check.due("with one", x.quarters(5), 1);
        check.due("a part", x.of(0, 3), 1);
        x.set(0, -1);
        x.quarters(4);
        check.due("the part stays", x.of(0, 3), 1);
        x.set(0, 0);
        check.due("any may ring", x.quarters(3), 1);
    }

    private static void feasts() {
        SilenceForMoney x = pair(20);
        x.set(0, 1);
        x.set(4, 3);
        check.due("day 0 is one", x.quarters(48), 0);
        check.due("day 1 is none", x.quarters(8), 2);
        x.set(6, 3);
        x.quarters(2);
        check.due("day 3 is one", x.of(0, 3), 0);
        x.set(6, 4);
        x.quarters(2);
        check.due("day 4 is none", x.of(0, 3), 2);
        x.set(6, 6);
        Check.text(x, 0, "word when 1=1;");
        Check.text(x, 2, "talk 99;");
        x.set(7, 50);
        x.quarters(1);
        check.due("none is broken on day 6", x.of(0, 3), 2);
        x.set(0, 0);
        x.quarters(1);
        check.due("nor does he speak", x.look(8), 0);
    }

    private static void spoke() {
        SilenceForMoney x = pair(9);
        Check.text(x, 0, "word when loud=7;");
        Check.text(x, 3, "talk 7 when quarter=1;");
        x.tell(1, 3, 1);
        x.set(0, 1);
        x.set(2, 1000);
        x.quarters(1);
        check.due("a false strike", x.look(7), 1);
        int state = x.look(12);
        x.quarters(1);
        check.due("he spoke", x.look(8), 1);
        check.due("no strike then", x.look(7), 1);
        check.due("no draw then", x.look(12), state);
        check.due("one line", x.look(2), 1);
        long[] want = {0, 49, 3, 1, -1};
        for (int what = 0; what < 5; what++) {
            check.due("line " + what, x.book(0, what), want[what]);
        }
        x.set(2, 0);
        x.set(7, 48);
        x.quarters(1);
        check.due("a part", x.of(0, 3), 1);
        x.quarters(1);
        check.due("nothing counts", x.of(0, 3), 1);
        x.quarters(2);
        check.due("goes on", x.of(0, 3), 3);
    }

    private static void order() {
        long[] due = {0, 2, 1};
        for (int order = 0; order < 3; order++) {
            SilenceForMoney x = new SilenceForMoney();
            x.one(0, 0, 0, 0, 4);
            x.one(0, 0, 0, 0, 4);
            int[] hours = {3, 9, 2, 9, 2};
            for (int h : hours) {
                x.debt(0, 1, h);
            }
            x.set(3, order);
            x.set(0, 1);
            x.quarters(3);
            for (int d = 0; d < hours.length; d++) {
                check.due("order " + order + " part of " + d, x.of(d, 3), d == due[order] ? 3 : 0);
            }
        }
        SilenceForMoney y = new SilenceForMoney();
        y.one(0, 0, 0, 0, 4);
        y.one(0, 0, 0, 0, 4);
        y.debt(0, 1, 5);
        y.debt(0, 1, 5);
        y.set(3, 2);
        y.set(0, 1);
        y.quarters(8);
        check.due("the most goes round", y.of(0, 2) * 10 + y.of(1, 2), 44);
        y.set(3, 1);
        y.quarters(16);
        check.due("the fewest stays", y.of(0, 2) * 10 + y.of(1, 2), 4);
        y.quarters(4);
        check.due("done ones are passed by", y.of(1, 2), 3);
    }

    private static void heardByWalls() {
        SilenceForMoney x = pair(9);
        Check.text(x, 0, "word when sort=0;");
        Check.text(x, 2, "talk 26;");
        x.set(0, 1);
        x.set(22, 1);
        x.set(1, 6);
        x.quarters(1);
        check.due("26 - 20 is not below 6", x.of(0, 3), 0);
        check.due("nothing was begun", x.look(6), 0);
        check.due("nor told", x.look(2), 0);
        x.set(1, 7);
        x.quarters(2);
        check.due("but below 7", x.of(0, 3), 2);
        x.set(22, 0);
        x.quarters(1);
        check.due("no wall within", x.of(0, 3), 0);
        check.due("begun again", x.look(6), 1);
        long[] want = {0, 51, 1, 0, 0};
        for (int what = 0; what < 5; what++) {
            check.due("line " + what, x.book(0, what), want[what]);
        }
        x.set(23, 2);
        x.quarters(1);
        check.due("the next hour's place", x.of(0, 3), 1);
        Check.text(x, 2, "work 99;");
        x.quarters(1);
        check.due("work is no word here", x.of(0, 3), 2);
        x.set(23, 0);
        x.set(1, 0);
        Check.text(x, 2, "talk 0;");
        x.quarters(1);
        check.due("0 is not below 0", x.of(0, 3), 0);
    }

    private static void childrenOfTheWorker() {
        SilenceForMoney x = pair(9);
        Check.text(x, 0, "word when child=1;");
        x.one(1, 0, 30, 1000, 4);
        x.set(0, 1);
        x.quarters(1);
        check.due("nobody's child", x.of(0, 3), 1);
        x.tell(2, 5, 1);
        x.quarters(1);
        check.due("the creditor's child", x.of(0, 3), 2);
        x.tell(2, 5, 0);
        x.quarters(1);
        check.due("his child", x.of(0, 3), 0);
        check.due("the line tells the worker", x.book(0, 3), 0);
        x.debt(2, 1, 2);
        x.tell(2, 5, -1);
        x.quarters(1);
        check.due("a child owes, too", x.of(1, 3), 0);
        check.due("and its parent no more", x.of(0, 3), 1);
    }

    private static void proxyWorks() {
        SilenceForMoney x = pair(9);
        x.one(2, 0, 0, 0, 4);
        Check.text(x, 0, "word when 1=1;");
        Check.text(x, 2, "talk 50;");
        x.set(0, 1);
        check.due("the debtor talks", x.quarters(4), 0);
        x.sell(0, 2, 0);
        check.due("the proxy is mute", x.quarters(4), 1);
        check.due("paid by", x.book(0, 3), 2);
        check.due("for", x.book(0, 4), 0);
        check.due("paid of it", x.of(0, 7), 1);
    }

    private static void falseStrikes() {
        SilenceForMoney x = pair(50);
        x.debt(1, 0, 50);
        x.state(99);
        Check.Draws draws = new Check.Draws(99);
        x.set(0, 1);
        x.set(2, 300);
        int[] part = new int[2];
        int[] paid = new int[2];
        int strikes = 0;
        int again = 0;
        int lines = 0;
        for (int i = 0; i < 40; i++) {
            x.quarters(1);
            for (int d = 0; d < 2; d++) {
                if (draws.of(1000) < 300) {
                    strikes++;
                    if (part[d] > 0) {
                        again++;
                        check.due("a strike is told", x.book(lines, 2), 2);
                        lines++;
                    }
                    part[d] = 0;
                } else if (++part[d] == 4) {
                    part[d] = 0;
                    paid[d]++;
                    check.due("an hour is told", x.book(lines, 2), 0);
                    lines++;
                }
                check.due("part", x.of(d, 3), part[d]);
                check.due("paid", x.of(d, 7), paid[d]);
            }
        }
        check.due("strikes", x.look(7), strikes);
        check.due("again", x.look(6), again);
        check.due("paid", x.look(5), paid[0] + paid[1]);
        check.due("lines", x.look(2), lines);
        check.due("state", x.look(12), draws.state);
    }

    private static void ringerMayWork() {
        SilenceForMoney x = pair(2);
        x.set(0, 0);
        check.due("he is the worker", x.quarters(8), 2);
        check.due("done", x.look(9), 1);
        check.due("nothing left", x.quarters(8), 0);
    }

    private static void bookIsFull() {
        SilenceForMoney x = new SilenceForMoney();
        x.one(2, 0, 0, 0, 4);
        x.one(2, 0, 0, 0, 4);
        x.one(2, 0, 0, 0, 4);
        x.debt(0, 1, 200);
        x.debt(1, 2, 199);
        x.debt(2, 0, 200);
        x.set(0, 0);
        check.due("720 hours in ten days", x.quarters(960), 599);
        check.due("400 lines at most", x.look(2), 400);
        check.due("the last one", x.book(399, 2), 0);
        check.due("none behind it", x.book(400, 2), -1);
        check.due("three are done", x.look(9), 3);
        check.due("all counted", x.look(5), 599);
    }

    private static void book() {
        SilenceForMoney x = pair(1);
        x.set(6, 17);
        x.set(0, 1);
        x.quarters(4);
        long[][] want = {{17, 51, 0, 0, 0}, {17, 51, 4, 0, 0}};
        for (int i = 0; i < 2; i++) {
            for (int what = 0; what < 5; what++) {
                check.due("book " + i + " " + what, x.book(i, what), want[i][what]);
            }
        }
        check.due("what 5", x.book(0, 5), -1);
        check.due("what -1", x.book(0, -1), -1);
        check.due("line 2", x.book(2, 0), -1);
        check.due("line -1", x.book(-1, 0), -1);
    }

    private static void look() {
        SilenceForMoney x = pair(5);
        x.debt(1, 0, 1);
        x.set(0, 1);
        x.set(6, 8);
        x.state(77);
        x.lend(0, 1, 0);
        x.one(0, 2, 0, 0, 4);
        x.lend(0, 2, 0);
        x.quarters(9);
        long[] want = {3, 2, 4, 8, 57, 3, 0, 0, 0, 1, 3, 1, 77};
        for (int what = 0; what < want.length; what++) {
            check.due("look " + what, x.look(what), want[what]);
        }
        check.due("look 13", x.look(13), -1);
        check.due("look -1", x.look(-1), -1);
    }
}
