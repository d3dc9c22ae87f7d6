import java.util.function.Supplier;
import java.util.function.ToLongFunction;

/** Two objects made alike: what is called on one alone may be seen beside the other. */
final class Twins {
    private final Check check;
    private final Supplier<SilenceForMoney> made;

    Twins(Check check, Supplier<SilenceForMoney> made) {
        this.check = check;
        this.made = made;
    }

    /** The call answers so, and leaves all as it was. */
    void leaves(String name, long want, ToLongFunction<SilenceForMoney> call) {
        SilenceForMoney x = made.get();
        check.due(name, call.applyAsLong(x), want);
        compare(name, Portrait.whole(x), Portrait.whole(made.get()));
    }

    /** A call that is refused with false. */
    void refuses(String name, java.util.function.Predicate<SilenceForMoney> call) {
        leaves(name, 0, x -> call.test(x) ? 1 : 0);
    }

    /** The call answers so, and something is not as it was. */
    void changes(String name, long want, ToLongFunction<SilenceForMoney> call) {
        SilenceForMoney x = made.get();
        check.due(name, call.applyAsLong(x), want);
        check.due(name + " changes something", Portrait.whole(x).equals(Portrait.whole(made.get())), false);
    }

    private void compare(String name, String got, String want) {
        check.due(name + " leaves all as it was", got.equals(want), true);
        String[] now = got.split("\n");
        String[] due = want.split("\n");
        for (int i = 0; i < Math.min(now.length, due.length); i++) {
            if (!now[i].equals(due[i])) {
                System.out.println("  first unlike: " + now[i] + ", due is " + due[i]);
                return;
            }
        }
    }
}
