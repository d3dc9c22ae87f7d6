/** Promises 7 to 9 and 23: debt, helpers, of, soonest. */
public final class DebtsTest {
    private static final Check check = new Check("DebtsTest");

    public static void main(String[] args) {
        debt();
        helpers();
        of();
        soonest();
        soonestByHelpers();
        soonestOfChildren();
        soonestAgainstFlow();
        check.end();
    }

    private static SilenceForMoney withPeople(int... sorts) {
        SilenceForMoney x = new SilenceForMoney();
        for (int sort : sorts) {
            x.one(sort, 0, 10, 0, 4);
        }
        return x;
    }

    private static void debt() {
        SilenceForMoney x = withPeople(0, 1, 2);
        check.due("to himself", x.debt(0, 0, 1), -1);
        check.due("nobody owes", x.debt(3, 0, 1), -1);
        check.due("below owes", x.debt(-1, 0, 1), -1);
        check.due("to nobody", x.debt(0, 3, 1), -1);
        check.due("to below", x.debt(0, -1, 1), -1);
        check.due("0 hours", x.debt(0, 1, 0), -1);
        check.due("201 hours", x.debt(0, 1, 201), -1);
        check.due("none yet", x.look(1), 0);
        for (int i = 0; i < 40; i++) {
            check.due("debt " + i, x.debt(i % 3, (i + 1) % 3, i == 0 ? 200 : 1), i);
        }
        check.due("the forty-first", x.debt(0, 1, 1), -1);
        check.due("forty", x.look(1), 40);
        check.due("all hours", x.look(10), 239);
        check.due("none done", x.look(9), 0);
    }

    private static void helpers() {
        SilenceForMoney x = withPeople(0, 1, 2);
        check.due("no such debt", x.helpers(0, 1), false);
        x.debt(0, 1, 3);
        check.due("none at first", x.of(0, 5), 0);
        check.due("all", x.helpers(0, 7), true);
        check.due("told", x.of(0, 5), 7);
        check.due("one who is not", x.helpers(0, 8), false);
        check.due("below", x.helpers(0, -1), false);
        check.due("least int", x.helpers(0, Integer.MIN_VALUE), false);
        check.due("still", x.of(0, 5), 7);
        check.due("nobody", x.helpers(0, 0), true);
        check.due("told nobody", x.of(0, 5), 0);
        check.due("debt -1", x.helpers(-1, 0), false);
        SilenceForMoney y = withPeople(0, 0, 0, 0, 0, 0, 0, 0, 0, 0, 0, 0);
        y.debt(0, 1, 1);
        check.due("all twelve", y.helpers(0, 4095), true);
        check.due("one more", y.helpers(0, 4096), false);
    }

    private static void of() {
        SilenceForMoney x = withPeople(0, 1, 2);
        x.debt(0, 1, 9);
        x.helpers(0, 5);
        x.set(0, 1);
        x.quarters(6);
        long[] before = {0, 1, 8, 2, -1, 5, 0, 1};
        for (int what = 0; what < before.length; what++) {
            check.due("of what " + what, x.of(0, what), before[what]);
        }
        x.sell(0, 2, 0);
        check.due("proxy", x.of(0, 4), 2);
        check.due("worker", x.of(0, 6), 2);
        check.due("what -1", x.of(0, -1), -2);
        check.due("what 8", x.of(0, 8), -2);
        check.due("debt 1", x.of(1, 0), -2);
        check.due("debt -1", x.of(-1, 0), -2);
    }

    private static void soonest() {
        SilenceForMoney x = withPeople(0, 0, 0);
        check.due("what -1", x.soonest(-1), -1);
        check.due("what 3", x.soonest(3), -1);
        x.debt(0, 1, 7);
        x.debt(0, 2, 5);
        check.due("alone he pays both", x.soonest(0), 12);
        check.due("bound", x.soonest(1), 12);
        check.due("alone", x.soonest(2), 12);
        x.sell(0, 1, 0);
        check.due("two may for one", x.soonest(0), 7);
        check.due("bound of two", x.soonest(1), 7);
        check.due("alone of the proxy", x.soonest(2), 7);
    }

    private static void soonestByHelpers() {
        SilenceForMoney x = withPeople(0, 0, 0, 2);
        x.debt(0, 3, 10);
        x.debt(0, 3, 10);
        x.debt(1, 3, 1);
        x.helpers(2, 8);
        check.due("what is by one alone", x.soonest(0), 20);
        check.due("bound asks all who may", x.soonest(1), 10);
        x.helpers(0, 2);
        check.due("half for each", x.soonest(0), 10);
        x.helpers(1, 2);
        x.helpers(2, 0);
        check.due("upwards", x.soonest(0), 11);
        check.due("bound upwards", x.soonest(1), 11);
        check.due("alone stays", x.soonest(2), 20);
    }

    private static void soonestOfChildren() {
        SilenceForMoney x = withPeople(0, 1, 1);
        x.debt(1, 0, 4);
        check.due("nobody may", x.soonest(0), -1);
        check.due("no bound", x.soonest(1), -1);
        check.due("alone is the child", x.soonest(2), 4);
        x.helpers(0, 6);
        check.due("a child helps not", x.soonest(0), -1);
        x.helpers(0, 1);
        check.due("the creditor may", x.soonest(0), 4);
        x.helpers(0, 0);
        x.inherit(1, 0);
        check.due("done is not asked", x.soonest(0), 0);
        check.due("nor bound", x.soonest(1), 0);
        check.due("nor alone", x.soonest(2), 0);
    }

    /** Against a parting that is sought HOUR by HOUR along paths. */
    private static void soonestAgainstFlow() {
        java.util.Random random = new java.util.Random(7);
        for (int run = 0; run < 200; run++) {
            int n = 2 + random.nextInt(6);
            SilenceForMoney x = withPeople(new int[n]);
            int debts = 1 + random.nextInt(6);
            int[] left = new int[debts];
            int[] may = new int[debts];
            for (int d = 0; d < debts; d++) {
                int debtor = random.nextInt(n);
                left[d] = 1 + random.nextInt(12);
                int set = random.nextInt(1 << n) & random.nextInt(1 << n);
                may[d] = set | 1 << debtor;
                x.debt(debtor, (debtor + 1) % n, left[d]);
                x.helpers(d, set);
            }
            check.due("soonest of run " + run, x.soonest(0), leastByPaths(left, may, n));
        }
    }

    private static int leastByPaths(int[] left, int[] may, int people) {
        int least = 0;
        for (int hours : left) {
            least = Math.max(least, hours);
        }
        for (int t = least; ; t++) {
            if (canBeParted(left, may, people, t)) {
                return t;
            }
        }
    }

    private static boolean canBeParted(int[] left, int[] may, int people, int t) {
        int[][] has = new int[people][left.length];
        for (int d = 0; d < left.length; d++) {
            for (int hour = 0; hour < left[d]; hour++) {
                if (!giveHour(d, has, may, t, new boolean[people])) {
                    return false;
                }
            }
        }
        return true;
    }

    private static boolean giveHour(int d, int[][] has, int[] may, int t, boolean[] seen) {
        for (int p = 0; p < has.length; p++) {
            if ((may[d] >> p & 1) == 0 || seen[p]) {
                continue;
            }
            seen[p] = true;
            int sum = 0;
            for (int hours : has[p]) {
                sum += hours;
            }
            if (sum < t) {
                has[p][d]++;
                return true;
            }
            for (int other = 0; other < has[p].length; other++) {
                if (has[p][other] > 0 && giveHour(other, has, may, t, seen)) {
                    has[p][other]--;
                    has[p][d]++;
                    return true;
                }
            }
        }
        return false;
    }
}
