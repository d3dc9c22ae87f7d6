/** The boundaries that promises 7 to 9 and 23 and their Terms name, on both sides of each. */
public final class DebtEdgesTest {
    private static final Check check = new Check("DebtEdgesTest");
    private static final Twins busy = new Twins(check, Towns::busy);
    private static final Twins indebted = new Twins(check, Towns::indebted);
    private static final int LEAST = Integer.MIN_VALUE;
    private static final int MOST = Integer.MAX_VALUE;

    public static void main(String[] args) {
        hoursAtTheirEdges();
        debtsThatCannotBe();
        fortyAndNoMore();
        doneWhenNoneIsLeft();
        helpersAreThoseThatThereAre();
        helpersOfDoneDebts();
        ofThatCannotBe();
        workerIsTheProxyIfThereIsOne();
        soonestOfNoSuchWhat();
        soonestWithoutDebts();
        soonestIfNobodyMay();
        soonestIsNotBelowADebt();
        soonestGoesUpwards();
        childrenMayNot();
        doneOnesAreNotAsked();
        mostOfEverything();
        aloneOfOneWorker();
        check.end();
    }

    /** "HOURS 1 .. 200". */
    private static void hoursAtTheirEdges() {
        for (int hours : new int[] {1, 2, 199, 200}) {
            busy.changes("HOURS " + hours, 5, x -> x.debt(0, 1, hours));
            SilenceForMoney x = Towns.grown(2);
            check.due("the first is 0", x.debt(1, 0, hours), 0);
            check.due("so many are LEFT", x.of(0, 2), hours);
        }
        for (int hours : new int[] {0, -1, 201, LEAST, MOST}) {
            busy.leaves("HOURS " + hours, -1, x -> x.debt(0, 1, hours));
        }
    }

    /** "A debtor, a creditor (unlike)": "NONE if one can't be". */
    private static void debtsThatCannotBe() {
        for (int who : new int[] {-1, 5, LEAST, MOST}) {
            busy.leaves("debtor " + who, -1, x -> x.debt(who, 1, 5));
            busy.leaves("creditor " + who, -1, x -> x.debt(1, who, 5));
            busy.leaves("both " + who, -1, x -> x.debt(who, who, 5));
        }
        for (int who = 0; who < 5; who++) {
            int one = who;
            busy.leaves("to himself " + who, -1, x -> x.debt(one, one, 5));
        }
        check.due("the last of PEOPLE owes", Towns.busy().debt(4, 0, 5), 5);
        check.due("to the last of PEOPLE", Towns.busy().debt(0, 4, 5), 5);
        check.due("a child owes to a mute", Towns.busy().debt(2, 3, 5), 5);
    }

    /** "NONE if .. there are forty". */
    private static void fortyAndNoMore() {
        SilenceForMoney x = Towns.grown(2);
        for (int d = 0; d < 39; d++) {
            x.debt(0, 1, 1);
        }
        check.due("the fortieth", x.debt(1, 0, 7), 39);
        check.due("is told", x.of(39, 2), 7);
        check.due("the forty-first", x.debt(1, 0, 7), -1);
        check.due("is none", x.of(40, 0), -2);
        check.due("forty", x.look(1), 40);
        indebted.leaves("one more than forty", -1, y -> y.debt(0, 1, 5));
        SilenceForMoney done = Towns.grown(2);
        for (int d = 0; d < 40; d++) {
            done.debt(0, 1, 1);
        }
        done.quarters(160);
        check.due("all are DONE", done.look(9), 40);
        check.due("DONE ones are DEBTS, too", done.debt(0, 1, 1), -1);
    }

    /** "One is DONE, when none is LEFT". */
    private static void doneWhenNoneIsLeft() {
        SilenceForMoney x = Towns.grown(2);
        x.debt(0, 1, 1);
        x.quarters(3);
        check.due("one is LEFT", x.look(9), 0);
        x.quarters(1);
        check.due("none is LEFT", x.look(9), 1);
        check.due("nothing of it", x.of(0, 2), 0);
        x.quarters(4);
        check.due("never below 0", x.of(0, 2), 0);
        check.due("nor paid once more", x.of(0, 7), 1);
        check.due("nor begun", x.of(0, 3), 0);
    }

    /** "A set of PEOPLE that there are". */
    private static void helpersAreThoseThatThereAre() {
        for (int set : new int[] {0, 1, 16, 30, 31}) {
            SilenceForMoney x = Towns.busy();
            check.due("HELPERS " + set, x.helpers(4, set), true);
            check.due("told " + set, x.of(4, 5), set);
        }
        for (int set : new int[] {32, 33, 63, 4096, -1, LEAST, MOST}) {
            busy.refuses("HELPERS " + set, x -> x.helpers(4, set));
        }
        for (int debt : new int[] {-1, 5, LEAST, MOST}) {
            busy.refuses("HELPERS of " + debt, x -> x.helpers(debt, 1));
        }
        SilenceForMoney all = Towns.crowd();
        all.debt(0, 1, 1);
        check.due("all twelve", all.helpers(0, 4095), true);
        check.due("are told", all.of(0, 5), 4095);
        check.due("a thirteenth", all.helpers(0, 4096), false);
        check.due("among others", all.helpers(0, 8191), false);
        check.due("the twelve stay", all.of(0, 5), 4095);
        SilenceForMoney last = Towns.indebted();
        check.due("of the fortieth", last.helpers(39, 7), true);
        check.due("of no forty-first", last.helpers(40, 7), false);
    }

    private static void helpersOfDoneDebts() {
        SilenceForMoney x = Towns.grown(2);
        x.debt(0, 1, 1);
        x.quarters(4);
        check.due("of a DONE one", x.helpers(0, 3), true);
        check.due("are told", x.of(0, 5), 3);
    }

    /** "NONE - 1 if there is none such, or another what". */
    private static void ofThatCannotBe() {
        for (int debt : new int[] {-1, 5, LEAST, MOST}) {
            for (int what = 0; what <= 7; what++) {
                check.due("of " + debt + " " + what, Towns.busy().of(debt, what), -2);
            }
            busy.leaves("of " + debt, -2, x -> x.of(debt, 0));
        }
        for (int what : new int[] {-1, 8, LEAST, MOST}) {
            busy.leaves("of what " + what, -2, x -> x.of(4, what));
        }
        long[] want = {0, 1, 2, 0, -1, 26, 0, 0};
        SilenceForMoney x = Towns.busy();
        for (int what = 0; what <= 7; what++) {
            check.due("of the last one what " + what, x.of(4, what), want[what]);
        }
        check.due("none yet", new SilenceForMoney().of(0, 0), -2);
    }

    private static void workerIsTheProxyIfThereIsOne() {
        SilenceForMoney x = Towns.grown(3);
        x.debt(1, 2, 5);
        check.due("NONE for a PROXY", x.of(0, 4), -1);
        check.due("the debtor works", x.of(0, 6), 1);
        x.sell(0, 0, 0);
        check.due("PROXY 0 is one", x.of(0, 4), 0);
        check.due("and works", x.of(0, 6), 0);
        check.due("for his hours", x.person(0, 9), 5);
        check.due("the debtor for none", x.person(1, 9), 0);
        check.due("who owes still", x.person(1, 7), 5);
    }

    /** "NONE for another what". */
    private static void soonestOfNoSuchWhat() {
        for (int what : new int[] {-1, 3, LEAST, MOST}) {
            busy.leaves("soonest " + what, -1, x -> x.soonest(what));
            check.due("soonest " + what + " of nothing", new SilenceForMoney().soonest(what), -1);
        }
    }

    /** "Each 0 without DEBTS that are not DONE". */
    private static void soonestWithoutDebts() {
        SilenceForMoney x = Towns.grown(2);
        for (int what = 0; what < 3; what++) {
            check.due("without any " + what, x.soonest(what), 0);
        }
        x.debt(0, 1, 1);
        for (int what = 0; what < 3; what++) {
            check.due("with one " + what, x.soonest(what), 1);
        }
        x.quarters(4);
        for (int what = 0; what < 3; what++) {
            check.due("with a DONE one " + what, x.soonest(what), 0);
        }
    }

    /** "0, 1 NONE, if nobody may for one of them": of those that are not DONE. */
    private static void soonestIfNobodyMay() {
        SilenceForMoney x = new SilenceForMoney();
        x.one(1, 0, 0, 0, 4);
        x.one(0, 0, 0, 0, 4);
        x.debt(1, 0, 4);
        x.debt(0, 1, 1);
        check.due("nobody may for the second", x.soonest(0), -1);
        check.due("nor is there a bound", x.soonest(1), -1);
        check.due("alone is not asked who may", x.soonest(2), 4);
        x.helpers(1, 1);
        check.due("the child's own help is none", x.soonest(0), -1);
        x.helpers(1, 2);
        check.due("one HELPER may", x.soonest(0), 5);
        check.due("a bound", x.soonest(1), 5);
        x.helpers(1, 0);
        x.set(0, 1);
        x.quarters(4);
        check.due("the child's is DONE", x.of(1, 2), 0);
        check.due("and not asked", x.soonest(0), 3);
        check.due("for the bound", x.soonest(1), 3);
    }

    /** "T not below any DEBT": of one DEBT one at a time. */
    private static void soonestIsNotBelowADebt() {
        SilenceForMoney x = Towns.grown(4);
        x.debt(0, 1, 9);
        x.helpers(0, 15);
        check.due("four for one", x.soonest(0), 9);
        check.due("bound", x.soonest(1), 9);
        x.debt(0, 1, 200);
        x.helpers(1, 15);
        check.due("the longest", x.soonest(0), 200);
        check.due("its bound", x.soonest(1), 200);
    }

    /** "Upwards": a part of an HOUR is a whole one. */
    private static void soonestGoesUpwards() {
        for (int hours = 1; hours <= 9; hours++) {
            SilenceForMoney x = Towns.grown(3);
            for (int d = 0; d < hours; d++) {
                x.debt(0, 1, 1);
                x.helpers(d, 6);
            }
            check.due("SOONEST of " + hours + " by three", x.soonest(0), (hours + 2) / 3);
            check.due("BOUND of " + hours + " by three", x.soonest(1), (hours + 2) / 3);
            check.due("ALONE of " + hours, x.soonest(2), hours);
        }
    }

    /** "Its debtor, PROXY or a HELPER (no child ..)". */
    private static void childrenMayNot() {
        SilenceForMoney x = new SilenceForMoney();
        x.one(1, 0, 0, 0, 4);
        x.one(0, 0, 0, 0, 4);
        x.one(2, 0, 0, 0, 4);
        x.debt(0, 1, 8);
        x.debt(0, 1, 8);
        check.due("a child alone", x.soonest(0), -1);
        x.sell(0, 2, 0);
        check.due("one has a PROXY, a mute", x.soonest(0), -1);
        x.sell(1, 2, 0);
        check.due("he has both", x.soonest(0), 16);
        check.due("the child is not counted", x.soonest(1), 16);
        x.helpers(1, 2);
        check.due("a HELPER for one", x.soonest(0), 8);
        check.due("by two", x.soonest(1), 8);
        x.sell(1, -1, 0);
        check.due("a HELPER without a PROXY", x.soonest(0), 8);
        SilenceForMoney first = Towns.grown(2);
        first.debt(1, 0, 4);
        first.debt(1, 0, 4);
        check.due("the debtor alone", first.soonest(0), 8);
        first.sell(0, 0, 0);
        check.due("the first of PEOPLE as a PROXY", first.soonest(0), 4);
        x.helpers(1, 0);
        check.due("nobody again", x.soonest(1), -1);
    }

    /** "Who may for some DEBT": not those who may for DONE ones alone. */
    private static void doneOnesAreNotAsked() {
        SilenceForMoney x = Towns.grown(3);
        x.debt(0, 2, 6);
        x.debt(0, 2, 5);
        x.debt(1, 2, 1);
        check.due("two may", x.soonest(1), 6);
        x.quarters(4);
        check.due("one is DONE", x.look(9), 1);
        check.due("one may", x.soonest(1), 10);
        check.due("he has all", x.soonest(0), 10);
        x.helpers(2, 7);
        check.due("HELPERS of a DONE one", x.soonest(1), 10);
    }

    /** Twelve who may, forty DEBTS, 200 HOURS each. */
    private static void mostOfEverything() {
        SilenceForMoney x = Towns.grown(12);
        for (int d = 0; d < 40; d++) {
            x.debt(11, 0, 200);
        }
        check.due("one for all", x.soonest(0), 8000);
        check.due("all HOURS LEFT", x.look(10), 8000);
        check.due("his", x.person(11, 7), 8000);
        for (int d = 0; d < 40; d++) {
            x.helpers(d, 4095);
        }
        check.due("all for all", x.soonest(0), 667);
        check.due("their bound", x.soonest(1), 667);
        check.due("alone", x.soonest(2), 8000);
    }

    /** "The most HOURS LEFT of one WORKER": the last of PEOPLE, a PROXY. */
    private static void aloneOfOneWorker() {
        SilenceForMoney x = Towns.grown(12);
        x.debt(0, 1, 5);
        x.debt(11, 1, 6);
        check.due("the last one", x.soonest(2), 6);
        x.sell(1, 0, 0);
        check.due("the PROXY with his own", x.soonest(2), 11);
    }
}
