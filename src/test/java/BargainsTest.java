/** Promises 18 to 22: lend, split, inherit, sell, undo. */
public final class BargainsTest {
    private static final Check check = new Check("BargainsTest");

    public static void main(String[] args) {
        lend();
        split();
        inherit();
        inheritProxies();
        sell();
        doneIsNoBargain();
        undoLend();
        undoSplit();
        undoInherit();
        undoSell();
        undoAsksHours();
        sixtyAreKept();
        check.end();
    }

    /** Four grown ones with 100 coins, a child 4, and a debt 0 of ten hours that 0 owes to 1. */
    private static SilenceForMoney town() {
        SilenceForMoney x = new SilenceForMoney();
        for (int i = 0; i < 5; i++) {
            x.one(i == 4 ? 1 : 0, 0, 10, 0, 4);
            x.tell(i, 4, 100);
        }
        x.debt(0, 1, 10);
        return x;
    }

    private static void lend() {
        SilenceForMoney x = town();
        check.due("no such debt", x.lend(1, 2, 0), false);
        check.due("debt -1", x.lend(-1, 2, 0), false);
        check.due("to nobody", x.lend(0, 5, 0), false);
        check.due("to none", x.lend(0, -1, 0), false);
        check.due("to its debtor", x.lend(0, 0, 0), false);
        check.due("to himself", x.lend(0, 1, 0), false);
        check.due("price -1", x.lend(0, 2, -1), false);
        check.due("price above his coin", x.lend(0, 2, 101), false);
        x.tell(2, 4, 99999);
        check.due("price 10000", x.lend(0, 2, 10000), false);
        check.due("nothing kept", x.look(11), 0);
        x.tell(1, 4, 99999);
        check.due("price 9999", x.lend(0, 2, 9999), true);
        check.due("he has it", x.of(0, 1), 2);
        check.due("he paid", x.person(2, 5), 90000);
        check.due("more than may be told", x.person(1, 5), 109998);
        check.due("the debtor still", x.of(0, 0), 0);
        check.due("one is kept", x.look(11), 1);
        check.due("to a child for all it has", x.lend(0, 4, 100), true);
        check.due("none left", x.person(4, 5), 0);
        check.due("owed to it", x.person(4, 8), 10);
    }

    private static void split() {
        SilenceForMoney x = town();
        x.sell(0, 3, 0);
        x.helpers(0, 6);
        x.set(0, 1);
        x.quarters(6);
        check.due("all of it", x.split(0, 9), -1);
        check.due("0", x.split(0, 0), -1);
        check.due("-1", x.split(0, -1), -1);
        check.due("200", x.split(0, 200), -1);
        check.due("no such", x.split(1, 1), -1);
        check.due("all but one", x.split(0, 8), 1);
        long[] old = {0, 1, 1, 2, 3, 6, 3, 1};
        long[] born = {0, 1, 8, 0, 3, 6, 3, 0};
        for (int what = 0; what < 8; what++) {
            check.due("old " + what, x.of(0, what), old[what]);
            check.due("born " + what, x.of(1, what), born[what]);
        }
        SilenceForMoney y = town();
        y.debt(0, 1, 200);
        check.due("199 of 200", y.split(1, 199), 2);
        for (int i = 3; i < 40; i++) {
            check.due("split " + i, y.split(2, 1), i);
        }
        check.due("there are forty", y.split(2, 1), -1);
        check.due("hours are as many", y.look(10), 210);
    }

    private static void inherit() {
        SilenceForMoney x = town();
        x.debt(2, 0, 3);
        x.debt(0, 3, 4);
        x.debt(3, 0, 5);
        x.debt(1, 2, 6);
        check.due("the same", x.inherit(0, 0), -1);
        check.due("nobody from", x.inherit(5, 0), -1);
        check.due("below from", x.inherit(-1, 0), -1);
        check.due("nobody to", x.inherit(0, 5), -1);
        check.due("below to", x.inherit(0, -1), -1);
        check.due("without any", x.inherit(4, 0), 0);
        check.due("is no bargain", x.look(11), 0);
        check.due("four of his", x.inherit(0, 3), 4);
        check.due("one bargain", x.look(11), 1);
        long[][] want = {{3, 1, 10}, {2, 3, 3}, {3, 3, 0}, {3, 3, 0}, {1, 2, 6}};
        for (int d = 0; d < want.length; d++) {
            for (int what = 0; what < 3; what++) {
                check.due("of " + d + " " + what, x.of(d, what), want[d][what]);
            }
        }
        check.due("two are done", x.look(9), 2);
        check.due("without a line", x.look(2), 0);
        check.due("or an hour paid", x.look(5), 0);
        check.due("only what is not done goes on", x.inherit(3, 4), 2);
        check.due("a child inherits", x.of(0, 0), 4);
        check.due("done ones stay", x.of(2, 0), 3);
    }

    private static void inheritProxies() {
        SilenceForMoney x = town();
        x.sell(0, 3, 0);
        x.debt(0, 2, 4);
        x.sell(1, 2, 0);
        check.due("two", x.inherit(0, 3), 2);
        check.due("he would be his own proxy", x.of(0, 4), -1);
        check.due("he works himself", x.of(0, 6), 3);
        check.due("another proxy stays", x.of(1, 4), 2);
        check.due("back", x.undo(), true);
        check.due("the proxy, too", x.of(0, 4), 3);
        check.due("the creditor's heir may be the proxy", x.inherit(1, 3), 1);
        check.due("and stays it", x.of(0, 4), 3);
    }

    private static void sell() {
        SilenceForMoney x = town();
        check.due("no such debt", x.sell(1, 2, 0), false);
        check.due("debt -1", x.sell(-1, 2, 0), false);
        check.due("the debtor", x.sell(0, 0, 0), false);
        check.due("a child", x.sell(0, 4, 0), false);
        check.due("nobody", x.sell(0, 5, 0), false);
        check.due("below none", x.sell(0, -2, 0), false);
        check.due("price -1", x.sell(0, 2, -1), false);
        check.due("price above his coin", x.sell(0, 2, 101), false);
        x.tell(0, 4, 20000);
        check.due("price 10000", x.sell(0, 2, 10000), false);
        check.due("price 9999", x.sell(0, 2, 9999), true);
        check.due("the debtor paid", x.person(0, 5), 10001);
        check.due("the proxy has it", x.person(2, 5), 10099);
        check.due("the proxy", x.of(0, 4), 2);
        check.due("the creditor may be it", x.sell(0, 1, 1), true);
        check.due("sold on", x.of(0, 6), 1);
        check.due("the same again", x.sell(0, 1, 0), true);
        x.tell(0, 4, 3);
        check.due("none any more", x.sell(0, -1, 9), true);
        check.due("none it is", x.of(0, 4), -1);
        check.due("none is paid", x.person(0, 5), 3);
        check.due("none twice", x.sell(0, -1, 0), true);
        check.due("five are kept", x.look(11), 5);
    }

    private static void doneIsNoBargain() {
        SilenceForMoney x = town();
        x.debt(2, 3, 1);
        x.set(0, 1);
        x.quarters(4);
        check.due("lend", x.lend(1, 0, 0), false);
        check.due("split", x.split(1, 1), -1);
        check.due("sell", x.sell(1, 0, 0), false);
        check.due("sell to none", x.sell(1, -1, 0), false);
        check.due("inherit", x.inherit(2, 0), 0);
        check.due("inherit what is owed", x.inherit(3, 0), 0);
        check.due("nothing kept", x.look(11), 0);
        check.due("helpers may be told", x.helpers(1, 1), true);
    }

    private static void undoLend() {
        SilenceForMoney x = town();
        check.due("none", x.undo(), false);
        x.lend(0, 2, 60);
        x.tell(1, 4, 5);
        x.helpers(0, 8);
        x.set(0, 3);
        x.quarters(3);
        check.due("back", x.undo(), true);
        check.due("the creditor", x.of(0, 1), 1);
        check.due("whatever it comes to", x.person(1, 5), -55);
        check.due("and back to him", x.person(2, 5), 100);
        check.due("the part stays", x.of(0, 3), 3);
        check.due("helpers stay", x.of(0, 5), 8);
        check.due("kept no more", x.look(11), 0);
        check.due("none again", x.undo(), false);
        x.lend(0, 2, 0);
        check.due("he can't pay, being below 0", x.lend(0, 1, 0), false);
    }

    private static void undoSplit() {
        SilenceForMoney x = town();
        x.split(0, 4);
        x.split(1, 1);
        x.debt(1, 2, 3);
        check.due("not the last any more", x.undo(), false);
        check.due("still kept", x.look(11), 2);
        check.due("nothing changed", x.look(1), 4);
        SilenceForMoney y = town();
        y.split(0, 4);
        y.split(1, 1);
        check.due("the second back", y.undo(), true);
        check.due("its hours", y.of(1, 2), 4);
        check.due("gone", y.look(1), 2);
        check.due("the first back", y.undo(), true);
        check.due("all hours", y.of(0, 2), 10);
        check.due("gone, too", y.look(1), 1);
        check.due("no such any more", y.of(1, 0), -2);
        check.due("a new one is new", y.debt(2, 3, 7), 1);
        check.due("its hours are its own", y.of(1, 2), 7);
        y.undo();
        newBehindSplit();
        SilenceForMoney z = town();
        z.split(0, 4);
        z.set(0, 1);
        z.set(3, 1);
        z.quarters(4);
        check.due("an hour of the new one is paid", z.of(1, 2), 3);
        check.due("it can't be", z.undo(), false);
    }

    /** A DEBT in the place of one that is gone has nothing of it. */
    private static void newBehindSplit() {
        SilenceForMoney x = town();
        x.sell(0, 2, 0);
        x.helpers(0, 8);
        x.split(0, 4);
        x.set(0, 1);
        x.set(3, 1);
        x.quarters(3);
        check.due("three parts of it", x.of(1, 3), 3);
        check.due("it goes back", x.undo(), true);
        check.due("another one", x.debt(3, 2, 5), 1);
        long[] want = {3, 2, 5, 0, -1, 0, 3, 0};
        for (int what = 0; what < 8; what++) {
            check.due("another one's " + what, x.of(1, what), want[what]);
        }
    }

    private static void undoInherit() {
        SilenceForMoney x = town();
        x.debt(2, 0, 3);
        x.sell(0, 2, 1);
        check.due("both", x.inherit(0, 2), 2);
        check.due("one is done", x.look(9), 1);
        check.due("back", x.undo(), true);
        long[][] want = {{0, 1, 10, 0, 2}, {2, 0, 3, 0, -1}};
        for (int d = 0; d < 2; d++) {
            for (int what = 0; what < 5; what++) {
                check.due("of " + d + " " + what, x.of(d, what), want[d][what]);
            }
        }
        check.due("coin is as it was", x.person(0, 5), 99);
        x.inherit(0, 2);
        x.set(0, 1);
        x.quarters(4);
        check.due("an hour was paid", x.undo(), false);
    }

    private static void undoSell() {
        SilenceForMoney x = town();
        x.sell(0, 2, 30);
        x.sell(0, 3, 20);
        x.sell(0, -1, 10);
        check.due("none", x.of(0, 4), -1);
        check.due("back once", x.undo(), true);
        check.due("the second", x.of(0, 4), 3);
        check.due("nothing was paid", x.person(0, 5), 50);
        check.due("back twice", x.undo(), true);
        check.due("the first", x.of(0, 4), 2);
        check.due("coin back", x.person(3, 5), 100);
        check.due("coin back to him", x.person(0, 5), 70);
        check.due("back thrice", x.undo(), true);
        check.due("as first", x.of(0, 4), -1);
        check.due("coin as first", x.person(0, 5) + x.person(2, 5), 200);
    }

    private static void undoAsksHours() {
        SilenceForMoney x = town();
        x.debt(2, 3, 9);
        x.lend(1, 0, 0);
        x.set(0, 1);
        x.quarters(4);
        check.due("its debt is less", x.undo(), false);
        x.sell(0, 3, 0);
        check.due("a later one may go back", x.undo(), true);
        check.due("the earlier may not", x.undo(), false);
        check.due("it is kept", x.look(11), 1);
        SilenceForMoney y = town();
        y.debt(2, 3, 9);
        y.sell(0, 2, 0);
        y.lend(0, 3, 0);
        y.set(0, 1);
        y.set(3, 1);
        y.quarters(4);
        check.due("another debt does not matter", y.undo(), true);
        check.due("nor here", y.undo(), true);
        check.due("hours of it were paid", y.of(1, 2), 8);
    }

    private static void sixtyAreKept() {
        SilenceForMoney x = town();
        for (int i = 0; i < 61; i++) {
            check.due("lend " + i, x.lend(0, i % 2 == 0 ? 2 : 1, 1), true);
        }
        check.due("sixty", x.look(11), 60);
        for (int i = 0; i < 60; i++) {
            check.due("undo " + i, x.undo(), true);
        }
        check.due("the first is not kept", x.undo(), false);
        check.due("so it stands", x.of(0, 1), 2);
        check.due("with its coin", x.person(2, 5), 99);
    }
}
