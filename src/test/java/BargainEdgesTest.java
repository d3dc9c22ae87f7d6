/** The boundaries that promises 18 to 22 and the Terms of BARGAINS name, on both sides of each. */
public final class BargainEdgesTest {
    private static final Check check = new Check("BargainEdgesTest");
    private static final Twins busy = new Twins(check, Towns::busy);
    private static final Twins indebted = new Twins(check, Towns::indebted);
    private static final int LEAST = Integer.MIN_VALUE;
    private static final int MOST = Integer.MAX_VALUE;

    public static void main(String[] args) {
        lendThatCannotBe();
        priceOfLend();
        coinOfLend();
        splitAtItsEdges();
        splitThatCannotBe();
        splitToForty();
        inheritThatCannotBe();
        inheritWithoutAny();
        inheritOfAll();
        inheritToTheCreditor();
        inheritAndProxies();
        sellThatCannotBe();
        priceOfSell();
        coinOfSell();
        sellToNone();
        doneOnesAreNone();
        undoWithoutAny();
        undoAsksHoursLeft();
        undoOfSplitAsksTheLast();
        undoOfInheritAsksAll();
        undoLeavesPartsAndHelpers();
        undoWhateverCoinComesTo();
        sixtyAreKept();
        check.end();
    }

    /** Debt 0 is of person 0 to person 1; debt 1 of 4 to 3, with 1 as its PROXY. */
    private static void lendThatCannotBe() {
        for (int debt : new int[] {-1, 5, LEAST, MOST}) {
            busy.refuses("lend " + debt, x -> x.lend(debt, 4, 0));
        }
        for (int to : new int[] {-1, -2, 5, LEAST, MOST}) {
            busy.refuses("lend to " + to, x -> x.lend(0, to, 0));
        }
        busy.refuses("lend to its creditor", x -> x.lend(0, 1, 0));
        busy.refuses("lend to its debtor", x -> x.lend(0, 0, 0));
        busy.refuses("lend to the heir that is its creditor", x -> x.lend(1, 3, 0));
        for (int to = 2; to < 5; to++) {
            SilenceForMoney x = Towns.busy();
            check.due("lend to " + to, x.lend(0, to, 0), true);
            check.due("he is it", x.of(0, 1), to);
            check.due("one more is kept", x.look(11), 4);
        }
        check.due("lend to its PROXY", Towns.busy().lend(1, 1, 0), true);
        check.due("lend the last one", Towns.busy().lend(4, 2, 0), true);
    }

    /** "A price 0 .. 9999". */
    private static void priceOfLend() {
        for (int price : new int[] {-1, 10000, LEAST, MOST}) {
            rich().refuses("lend for " + price, x -> x.lend(0, 2, price));
        }
        for (int price : new int[] {0, 1, 9998, 9999}) {
            SilenceForMoney x = richTown();
            check.due("lend for " + price, x.lend(0, 2, price), true);
            check.due("he pays", x.person(2, 5), 99999 - price);
            check.due("to him that was", x.person(1, 5), 99999 + price);
        }
    }

    private static SilenceForMoney richTown() {
        SilenceForMoney x = Towns.grown(3);
        for (int who = 0; who < 3; who++) {
            x.tell(who, 4, 99999);
        }
        x.debt(0, 1, 9);
        return x;
    }

    private static Twins rich() {
        return new Twins(check, BargainEdgesTest::richTown);
    }

    /** "COIN must not come below 0". */
    private static void coinOfLend() {
        busy.refuses("lend for one more than he has", x -> x.lend(0, 4, 98));
        SilenceForMoney all = Towns.busy();
        check.due("for all he has", all.lend(0, 4, 97), true);
        check.due("nothing is left", all.person(4, 5), 0);
        check.due("it came to him", all.person(1, 5), 101 + 7 + 97);
        SilenceForMoney poor = Towns.grown(3);
        poor.debt(0, 1, 1);
        poor.tell(2, 4, 0);
        check.due("for 1 with nothing", poor.lend(0, 2, 1), false);
        check.due("for 0 with nothing", poor.lend(0, 2, 0), true);
    }

    /** "Of a DEBT with more than k HOURS LEFT k (1 .. 199)". */
    private static void splitAtItsEdges() {
        int[][] pairs = {{2, 1}, {200, 199}, {200, 1}, {3, 2}};
        for (int[] p : pairs) {
            SilenceForMoney x = Towns.grown(2);
            x.debt(0, 1, p[0]);
            check.due("split " + p[1] + " of " + p[0], x.split(0, p[1]), 1);
            check.due("so many stay", x.of(0, 2), p[0] - p[1]);
            check.due("so many go", x.of(1, 2), p[1]);
            check.due("as many as were", x.look(10), p[0]);
        }
        SilenceForMoney y = Towns.grown(2);
        y.debt(0, 1, 2);
        check.due("as many as are LEFT", y.split(0, 2), -1);
        check.due("more than are LEFT", y.split(0, 3), -1);
        y.debt(0, 1, 200);
        check.due("200 of 200", y.split(1, 200), -1);
        y.debt(0, 1, 1);
        check.due("one of one", y.split(2, 1), -1);
        check.due("nothing is kept", y.look(11), 0);
        check.due("nothing is new", y.look(1), 3);
    }

    private static void splitThatCannotBe() {
        for (int k : new int[] {0, -1, 4, 199, 200, LEAST, MOST}) {
            busy.leaves("split " + k, -1, x -> x.split(0, k));
        }
        for (int debt : new int[] {-1, 5, LEAST, MOST}) {
            busy.leaves("split of " + debt, -1, x -> x.split(debt, 1));
        }
        busy.changes("split all but one", 5, x -> x.split(0, 3));
    }

    /** "NONE if .. there are forty". */
    private static void splitToForty() {
        indebted.leaves("split beyond forty", -1, x -> x.split(0, 1));
        SilenceForMoney x = Towns.grown(2);
        for (int d = 0; d < 39; d++) {
            x.debt(0, 1, 3);
        }
        check.due("the fortieth by a split", x.split(38, 1), 39);
        check.due("no more", x.split(38, 1), -1);
        check.due("one bargain", x.look(11), 1);
        check.due("it goes back", x.undo(), true);
        check.due("there is room again", x.split(0, 2), 39);
        check.due("but no more", x.debt(0, 1, 1), -1);
    }

    /** "NONE if one can't be (the same)". */
    private static void inheritThatCannotBe() {
        for (int who : new int[] {-1, 5, LEAST, MOST}) {
            busy.leaves("inherit from " + who, -1, x -> x.inherit(who, 0));
            busy.leaves("inherit to " + who, -1, x -> x.inherit(0, who));
            busy.leaves("inherit from and to " + who, -1, x -> x.inherit(who, who));
        }
        for (int who = 0; who < 5; who++) {
            int one = who;
            busy.leaves("inherit of himself " + who, -1, x -> x.inherit(one, one));
        }
    }

    /** "Without any it is no BARGAIN". */
    private static void inheritWithoutAny() {
        Twins idle = new Twins(check, BargainEdgesTest::withAnIdleOne);
        idle.leaves("inherit without any", 0, x -> x.inherit(5, 0));
        idle.leaves("of a PROXY who owes none", 0, x -> x.inherit(6, 0));
        check.due("to one without any", withAnIdleOne().inherit(0, 5), 2);
    }

    /** Person 5 has nothing to do with any DEBT, person 6 is a PROXY and no more. */
    private static SilenceForMoney withAnIdleOne() {
        SilenceForMoney x = Towns.busy();
        x.one(0, 0, 0, 0, 4);
        x.one(0, 0, 0, 0, 4);
        x.sell(4, 6, 1);
        return x;
    }

    private static void inheritOfAll() {
        SilenceForMoney x = Towns.grown(4);
        for (int d = 0; d < 40; d++) {
            x.debt(d % 2 == 0 ? 1 : 2, d % 2 == 0 ? 2 : 1, 1);
        }
        check.due("all forty", x.inherit(1, 3), 40);
        check.due("one bargain", x.look(11), 1);
        check.due("none is DONE", x.look(9), 0);
        check.due("the first is his", x.of(0, 0) * 10 + x.of(0, 1), 32);
        check.due("the last is owed to him", x.of(39, 0) * 10 + x.of(39, 1), 23);
        check.due("nothing of hers", x.inherit(1, 3), 0);
        check.due("back", x.undo(), true);
        check.due("the last is as it was", x.of(39, 0) * 10 + x.of(39, 1), 21);
        check.due("all to the other", x.inherit(1, 2), 40);
        check.due("all are DONE", x.look(9), 40);
        check.due("no line", x.look(2) + x.look(5) + x.of(39, 7), 0);
        check.due("none any more", x.inherit(2, 1), 0);
        check.due("all back", x.undo(), true);
        check.due("none is DONE again", x.look(9), 0);
    }

    /** "Those in which one would owe to himself are DONE (none LEFT, no line in THE BOOK)". */
    private static void inheritToTheCreditor() {
        SilenceForMoney x = Towns.grown(3);
        x.debt(1, 2, 5);
        x.debt(2, 1, 6);
        x.debt(1, 0, 7);
        x.quarters(2);
        check.due("parts are begun", x.of(0, 3) + x.of(1, 3), 4);
        check.due("three of his", x.inherit(1, 2), 3);
        check.due("the first is DONE", x.of(0, 2), 0);
        check.due("the second is DONE", x.of(1, 2), 0);
        check.due("the third is not", x.of(2, 2), 7);
        check.due("no HOUR was paid", x.look(5) + x.of(0, 7), 0);
        check.due("no line", x.look(2), 0);
        check.due("two are DONE", x.look(9), 2);
        x.quarters(4);
        check.due("he keeps quiet for the third alone", x.of(2, 2), 6);
    }

    /** "A PROXY who would be the debtor himself is none then". */
    private static void inheritAndProxies() {
        SilenceForMoney x = Towns.grown(4);
        x.debt(1, 2, 5);
        x.sell(0, 3, 0);
        check.due("to the PROXY", x.inherit(1, 3), 1);
        check.due("none then", x.of(0, 4), -1);
        check.due("he works himself", x.of(0, 6), 3);
        SilenceForMoney y = Towns.grown(4);
        y.debt(1, 2, 5);
        y.sell(0, 3, 0);
        check.due("to another", y.inherit(1, 0), 1);
        check.due("the PROXY stays", y.of(0, 4), 3);
        check.due("what is owed to the PROXY", y.inherit(2, 3), 1);
        check.due("stays, too", y.of(0, 4), 3);
        SilenceForMoney z = Towns.grown(4);
        z.debt(1, 2, 5);
        z.sell(0, 2, 0);
        check.due("to the creditor and PROXY", z.inherit(1, 2), 1);
        check.due("DONE", z.of(0, 2), 0);
        check.due("and none", z.of(0, 4), -1);
        check.due("back", z.undo(), true);
        check.due("as ahead", z.of(0, 0) * 100 + z.of(0, 2) * 10 + z.of(0, 4), 152);
    }

    private static void sellThatCannotBe() {
        for (int debt : new int[] {-1, 5, LEAST, MOST}) {
            busy.refuses("sell " + debt, x -> x.sell(debt, 4, 0));
            busy.refuses("sell " + debt + " to NONE", x -> x.sell(debt, -1, 0));
        }
        for (int to : new int[] {-2, 5, LEAST, MOST}) {
            busy.refuses("sell to " + to, x -> x.sell(0, to, 0));
        }
        busy.refuses("sell to the debtor", x -> x.sell(0, 0, 0));
        busy.refuses("sell to a child", x -> x.sell(0, 2, 0));
        for (int to : new int[] {-1, 1, 3, 4}) {
            SilenceForMoney x = Towns.busy();
            check.due("sell to " + to, x.sell(0, to, 0), true);
            check.due("the PROXY", x.of(0, 4), to);
            check.due("is kept", x.look(11), 4);
        }
    }

    private static void priceOfSell() {
        for (int price : new int[] {-1, 10000, LEAST, MOST}) {
            rich().refuses("sell for " + price, x -> x.sell(0, 2, price));
            rich().refuses("sell to NONE for " + price, x -> x.sell(0, -1, price));
        }
        for (int price : new int[] {0, 1, 9998, 9999}) {
            SilenceForMoney x = richTown();
            check.due("sell for " + price, x.sell(0, 2, price), true);
            check.due("the debtor pays", x.person(0, 5), 99999 - price);
            check.due("to the PROXY", x.person(2, 5), 99999 + price);
            check.due("the creditor nothing", x.person(1, 5), 99999);
        }
    }

    /** "COIN must not come below 0". */
    private static void coinOfSell() {
        busy.refuses("sell for one more than he has", x -> x.sell(0, 4, 106));
        SilenceForMoney x = Towns.busy();
        check.due("for all he has", x.sell(0, 4, 105), true);
        check.due("nothing is left", x.person(0, 5), 0);
        check.due("for 1 with nothing", x.sell(0, 3, 1), false);
        check.due("for 0 with nothing", x.sell(0, 3, 0), true);
    }

    /** "NONE: none any more", "none is paid to NONE". */
    private static void sellToNone() {
        SilenceForMoney x = Towns.grown(3);
        x.debt(0, 1, 9);
        x.sell(0, 2, 30);
        x.tell(0, 4, 0);
        check.due("to NONE for what he has not", x.sell(0, -1, 9999), true);
        check.due("none any more", x.of(0, 4), -1);
        check.due("none is paid", x.person(0, 5), 0);
        check.due("by none", x.person(1, 5) + x.person(2, 5), 230);
        check.due("goes back", x.undo(), true);
        check.due("to the PROXY", x.of(0, 4), 2);
        check.due("none comes back", x.person(0, 5), 0);
        check.due("to NONE twice", x.sell(0, -1, 0) && x.sell(0, -1, 0), true);
        check.due("all are kept", x.look(11), 3);
    }

    /** "BARGAINS are of DEBTS that are not DONE": one HOUR LEFT, and none. */
    private static void doneOnesAreNone() {
        for (int quarters = 3; quarters <= 4; quarters++) {
            boolean open = quarters == 3;
            int n = quarters;
            check.due("lend behind " + n, oneHour(n).lend(0, 3, 0), open);
            check.due("sell behind " + n, oneHour(n).sell(0, 3, 0), open);
            check.due("sell to NONE behind " + n, oneHour(n).sell(0, -1, 0), open);
            check.due("inherit behind " + n, oneHour(n).inherit(1, 3), open ? 1 : 0);
            check.due("inherit what is owed behind " + n, oneHour(n).inherit(2, 3), open ? 1 : 0);
        }
        Twins done = new Twins(check, () -> oneHour(4));
        done.refuses("lend a DONE one", x -> x.lend(0, 3, 0));
        done.refuses("sell a DONE one", x -> x.sell(0, 3, 0));
        done.refuses("sell a DONE one to NONE", x -> x.sell(0, -1, 0));
        done.leaves("split a DONE one", -1, x -> x.split(0, 1));
        done.leaves("inherit DONE ones", 0, x -> x.inherit(1, 3));
        done.leaves("inherit what was owed", 0, x -> x.inherit(2, 3));
    }

    private static SilenceForMoney oneHour(int quarters) {
        SilenceForMoney x = Towns.grown(4);
        x.debt(1, 2, 1);
        x.quarters(quarters);
        return x;
    }

    /** "False if there is none". */
    private static void undoWithoutAny() {
        Twins none = new Twins(check, () -> oneHour(2));
        none.refuses("undo of none", SilenceForMoney::undo);
        SilenceForMoney x = oneHour(2);
        x.lend(0, 3, 0);
        check.due("undo of one", x.undo(), true);
        check.due("undo of no more", x.undo(), false);
        check.due("none is kept", x.look(11), 0);
    }

    /** "If the DEBTS of it have as many HOURS LEFT as just behind it". */
    private static void undoAsksHoursLeft() {
        for (int quarters = 3; quarters <= 4; quarters++) {
            SilenceForMoney x = Towns.grown(4);
            x.debt(1, 2, 2);
            x.lend(0, 3, 10);
            x.quarters(quarters);
            check.due("undo behind " + quarters, x.undo(), quarters == 3);
            check.due("kept behind " + quarters, x.look(11), quarters == 3 ? 0 : 1);
            check.due("creditor behind " + quarters, x.of(0, 1), quarters == 3 ? 2 : 3);
            check.due("coin behind " + quarters, x.person(3, 5), quarters == 3 ? 100 : 90);
        }
        Twins late = new Twins(check, () -> {
            SilenceForMoney x = Towns.grown(4);
            x.debt(1, 2, 2);
            x.lend(0, 3, 10);
            x.sell(0, 3, 20);
            x.quarters(4);
            return x;
        });
        late.refuses("undo of what has fewer", SilenceForMoney::undo);
    }

    /** "SPLIT: the new one is gone, if it is the last DEBT still, else it can't be". */
    private static void undoOfSplitAsksTheLast() {
        Twins notLast = new Twins(check, () -> {
            SilenceForMoney x = Towns.grown(4);
            x.debt(1, 2, 9);
            x.split(0, 4);
            x.debt(2, 3, 1);
            return x;
        });
        notLast.refuses("undo of a SPLIT that is not the last", SilenceForMoney::undo);
        for (int of = 0; of < 2; of++) {
            SilenceForMoney x = Towns.grown(4);
            x.debt(1, 2, 9);
            x.split(0, 4);
            x.set(3, of == 0 ? 2 : 1);
            x.quarters(4);
            check.due("an HOUR of " + of, x.of(of, 7), 1);
            check.due("undo then", x.undo(), false);
            check.due("both stay", x.look(1), 2);
        }
        SilenceForMoney y = Towns.grown(4);
        y.debt(1, 2, 9);
        y.split(0, 4);
        y.quarters(3);
        check.due("undo with PARTS", y.undo(), true);
        check.due("the new one is gone", y.look(1), 1);
        check.due("all HOURS are the old one's", y.of(0, 2), 9);
        check.due("its PART stays", y.of(0, 3), 3);
        check.due("no such one", y.helpers(1, 0), false);
    }

    /** "The DEBTS of it": an INHERIT asks all of them, the first one and the last. */
    private static void undoOfInheritAsksAll() {
        int[] worker = {4, 3};
        for (int paid = 0; paid < 2; paid++) {
            SilenceForMoney x = Towns.grown(5);
            Check.text(x, 0, "word when sort=0;");
            Check.text(x, 2, "talk 50;");
            x.debt(1, 2, 9);
            x.debt(3, 1, 9);
            x.inherit(1, 4);
            x.tell(worker[1 - paid], 3, 0);
            x.quarters(4);
            check.due("an HOUR of " + paid, x.of(paid, 7) * 10 + x.of(1 - paid, 7), 10);
            check.due("can't be, as " + paid + " has fewer", x.undo(), false);
            check.due("both stay", x.of(0, 0) * 10 + x.of(1, 1), 44);
            check.due("it is kept", x.look(11), 1);
        }
    }

    /** "PARTS and HELPERS stay as they are". */
    private static void undoLeavesPartsAndHelpers() {
        SilenceForMoney x = Towns.grown(4);
        x.debt(1, 2, 9);
        x.quarters(1);
        x.sell(0, 3, 7);
        x.helpers(0, 5);
        x.quarters(2);
        check.due("undo", x.undo(), true);
        check.due("PART stays", x.of(0, 3), 3);
        check.due("HELPERS stay", x.of(0, 5), 5);
        check.due("PROXY goes back", x.of(0, 4), -1);
        check.due("COIN goes back", x.person(1, 5) * 1000 + x.person(3, 5), 100100);
    }

    /** "COIN goes back, too, whatever it comes to": below 0, and above 99999. */
    private static void undoWhateverCoinComesTo() {
        SilenceForMoney x = richTown();
        x.lend(0, 2, 9999);
        x.tell(1, 4, 0);
        x.tell(2, 4, 99999);
        check.due("undo", x.undo(), true);
        check.due("below 0", x.person(1, 5), -9999);
        check.due("above 99999", x.person(2, 5), 109998);
        check.due("one below 0 may be paid", x.sell(0, 1, 1), true);
        check.due("has it", x.person(1, 5), -9998);
        SilenceForMoney y = richTown();
        y.sell(0, 2, 9999);
        y.tell(2, 4, 9998);
        check.due("undo of SELL", y.undo(), true);
        check.due("one below 0", y.person(2, 5), -1);
        check.due("the debtor has his", y.person(0, 5), 99999);
    }

    /** "60 BARGAINS are kept, older ones are not". */
    private static void sixtyAreKept() {
        for (int made = 59; made <= 62; made++) {
            SilenceForMoney x = Towns.grown(3);
            x.debt(0, 1, 200);
            for (int i = 0; i < made; i++) {
                x.sell(0, i % 2 + 1, 0);
            }
            int kept = Math.min(made, 60);
            check.due("kept of " + made, x.look(11), kept);
            for (int i = 0; i < kept; i++) {
                check.due("undo " + i + " of " + made, x.undo(), true);
                int left = made - i - 1;
                check.due("as ahead", x.of(0, 4), left == 0 ? -1 : (left - 1) % 2 + 1);
            }
            check.due("no more of " + made, x.undo(), false);
            check.due("none is kept of " + made, x.look(11), 0);
        }
        for (int sort = 0; sort < 4; sort++) {
            check.due("sixty of sort " + sort, behindSixty(sort), 60);
        }
    }

    /** Sixty of LEND, and one more of a sort. */
    private static int behindSixty(int sort) {
        SilenceForMoney x = Towns.grown(4);
        x.debt(0, 1, 200);
        for (int i = 0; i < 60; i++) {
            x.lend(0, i % 2 == 0 ? 2 : 1, 0);
        }
        if (sort == 0) {
            x.lend(0, 2, 0);
        } else if (sort == 1) {
            x.split(0, 1);
        } else if (sort == 2) {
            x.inherit(0, 3);
        } else {
            x.sell(0, 3, 0);
        }
        return x.look(11);
    }
}
