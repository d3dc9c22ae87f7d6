import java.util.Random;

/** Random runs of calls, each answer held beside that of the Model, which was written apart. */
public final class ModelTest {
    private static final Check check = new Check("ModelTest");
    private static final String[] LAW_VALUES = {"loud", "sort", "hour", "night", "feast", "child"};
    private static final String[] RULE_VALUES = {"hour", "quarter", "day", "night", "feast", "owes", "owed", "with"};

    private final Random random;
    private final int run;
    private final SilenceForMoney x = new SilenceForMoney();
    private final Model y = new Model();
    private int calls;

    private ModelTest(int run) {
        this.run = run;
        random = new Random(run);
    }

    public static void main(String[] args) {
        int runs = args.length > 0 ? Integer.parseInt(args[0]) : 400;
        for (int run = 0; run < runs; run++) {
            new ModelTest(run).go();
        }
        check.end();
    }

    private void go() {
        one("state", x.state(run * 7919), y.state(run * 7919));
        int people = 2 + random.nextInt(11);
        for (int i = 0; i < people; i++) {
            addOne();
            tell(i, 4, random.nextInt(300));
        }
        for (int k = 0; k < 6; k++) {
            text(k, k < 2 ? lawText() : ruleText(), 20);
        }
        set(0, random.nextInt(people));
        if (random.nextInt(2) == 0) {
            set(2, random.nextInt(300));
        }
        for (int i = 0; i < 8; i++) {
            set(10 + random.nextInt(24), random.nextInt(6));
            tell(random.nextInt(people), 5, random.nextInt(people));
            debt(random.nextInt(people), random.nextInt(people), 1 + random.nextInt(random.nextInt(10) == 0 ? 200 : 9));
        }
        while (calls < 500) {
            step(people);
        }
    }

    private void one(String call, long got, long want) {
        calls++;
        check.due("run " + run + " call " + calls + " " + call, got, want);
    }

    private void one(String call, boolean got, boolean want) {
        one(call, got ? 1 : 0, want ? 1 : 0);
    }

    private void addOne() {
        int sort = random.nextInt(5) / 2;
        int place = random.nextInt(6);
        int loud = random.nextInt(100);
        int whispers = random.nextInt(3) == 0 ? random.nextInt(1001) : random.nextInt(60);
        int rule = random.nextInt(5);
        one("one", x.one(sort, place, loud, whispers, rule), y.one(sort, place, loud, whispers, rule));
    }

    private void tell(int who, int what, int v) {
        one("tell " + who + " " + what + " " + v, x.tell(who, what, v), y.tell(who, what, v));
    }

    private void set(int what, int v) {
        one("set " + what + " " + v, x.set(what, v), y.set(what, v));
    }

    private void debt(int a, int b, int hours) {
        one("debt", x.debt(a, b, hours), y.debt(a, b, hours));
    }

    /** One text in so many is spoilt in some place. */
    private void text(int k, String text, int spoilt) {
        String s = text.length() > 400 ? text.substring(0, 400) : text;
        if (random.nextInt(spoilt) == 0 && !s.isEmpty()) {
            int at = random.nextInt(s.length());
            String signs = "x0 ;()=<>+-*/\nnA9.";
            char c = signs.charAt(random.nextInt(signs.length()));
            s = s.substring(0, at) + (random.nextBoolean() ? c : "") + s.substring(at + 1);
        }
        for (int at = 0; at < s.length(); at += 20) {
            int[] n = new int[5];
            for (int i = 0; i < 20; i++) {
                n[i / 4] = n[i / 4] << 8 | (at + i < s.length() ? s.charAt(at + i) : ' ');
            }
            one("feed", x.feed(n[0], n[1], n[2], n[3], n[4]), y.feed(n[0], n[1], n[2], n[3], n[4]));
        }
        one("end", x.end(s.length()), y.end(s.length()));
        one("text " + k + " " + s, x.text(k), y.text(k));
        one("fault of " + s, x.fault(0), y.fault(0));
        one("place in " + s, x.fault(1), y.fault(1));
    }

    private String value(String[] values) {
        int n = random.nextInt(10);
        if (n < 4) {
            return Integer.toString(random.nextInt(n == 0 ? 10000 : 30));
        }
        return values[random.nextInt(values.length)];
    }

    private String sum(String[] values) {
        StringBuilder s = new StringBuilder(value(values));
        for (int i = random.nextInt(8) - 4; i > 0; i--) {
            switch (random.nextInt(4)) {
                case 0: s.append("+").append(value(values)); break;
                case 1: s.append("-").append(value(values)); break;
                case 2: s.append("*").append(value(values)); break;
                default: s.append("/").append(random.nextInt(12) == 0 ? 0 : 1 + random.nextInt(9)); break;
            }
        }
        return s.toString();
    }

    private String condition(String[] values, int depth) {
        int n = random.nextInt(10);
        if (n == 0 && depth < 10) {
            return "not " + condition(values, depth + 1);
        }
        if (n == 1 && depth < 10) {
            return "(" + any(values, depth + 1) + ")";
        }
        return sum(values) + "<=>".charAt(random.nextInt(3)) + sum(values);
    }

    private String any(String[] values, int depth) {
        StringBuilder s = new StringBuilder(condition(values, depth));
        for (int i = random.nextInt(6) - 3; i > 0; i--) {
            s.append(random.nextBoolean() ? " and " : " or ").append(condition(values, depth));
        }
        return s.toString();
    }

    private String lawText() {
        StringBuilder s = new StringBuilder();
        for (int i = random.nextInt(4); i > 0; i--) {
            s.append("word when ").append(any(LAW_VALUES, 0)).append(";");
        }
        return s.toString();
    }

    private String ruleText() {
        StringBuilder s = new StringBuilder();
        for (int i = random.nextInt(5); i > 0; i--) {
            int n = random.nextInt(5);
            s.append(n == 0 ? "hush" : (n < 3 ? "talk " : "work ") + random.nextInt(random.nextInt(20) == 0 ? 120 : 100));
            if (random.nextInt(8) != 0) {
                s.append(" when ").append(any(RULE_VALUES, 0));
            }
            s.append(";");
        }
        return s.toString();
    }

    /** Mostly within a range, sometimes at or beyond its edges. */
    private int near(int least, int most) {
        int n = random.nextInt(40);
        if (n == 0) {
            return least - 1;
        }
        if (n == 1) {
            return most + 1;
        }
        if (n == 2) {
            return random.nextInt();
        }
        return least + random.nextInt(most - least + 1);
    }

    private void step(int people) {
        int debts = Math.max(1, y.look(1));
        switch (random.nextInt(34)) {
            case 0: tell(near(0, people - 1), near(0, 5), near(-1, 99)); break;
            case 1: tell(near(0, people - 1), 4, near(0, 99999)); break;
            case 2: wall(near(0, 5), near(0, 5), near(0, 99)); break;
            case 3: set(near(0, 7), near(0, random.nextBoolean() ? 3 : 95)); break;
            case 4: set(near(10, 33), near(0, 5)); break;
            case 5: debt(near(0, people - 1), near(0, people - 1), near(1, 30)); break;
            case 6: helpers(near(0, debts - 1), random.nextInt(1 << people)); break;
            case 7: text(near(0, 5), random.nextBoolean() ? ruleText() : lawText(), 2); break;
            case 8:
            case 9:
            case 10:
            case 11: quarters(near(1, 40)); break;
            case 12: quarters(near(1, 960)); break;
            case 13:
            case 14: lend(near(0, debts - 1), near(0, people - 1), near(0, 60)); break;
            case 15: split(near(0, debts - 1), near(1, 5)); break;
            case 16: inherit(near(0, people - 1), near(0, people - 1)); break;
            case 17:
            case 18: sell(near(0, debts - 1), near(-1, people - 1), near(0, 60)); break;
            case 19:
            case 20: one("undo", x.undo(), y.undo()); break;
            case 21: image(); break;
            case 22: quiet(near(1, 8), near(0, 2)); break;
            case 23: thought(near(1, 30), near(-1, 1), near(0, 3)); break;
            default: ask(people, debts); break;
        }
        look(people, debts);
    }

    private void wall(int a, int b, int v) {
        one("wall", x.wall(a, b, v), y.wall(a, b, v));
    }

    private void helpers(int d, int set) {
        one("helpers", x.helpers(d, set), y.helpers(d, set));
    }

    private void quarters(int n) {
        one("quarters " + n, x.quarters(n), y.quarters(n));
    }

    private void lend(int d, int to, int price) {
        one("lend", x.lend(d, to, price), y.lend(d, to, price));
    }

    private void split(int d, int k) {
        one("split", x.split(d, k), y.split(d, k));
    }

    private void inherit(int from, int to) {
        one("inherit", x.inherit(from, to), y.inherit(from, to));
    }

    private void sell(int d, int to, int price) {
        one("sell", x.sell(d, to, price), y.sell(d, to, price));
    }

    private void image() {
        boolean taken = random.nextInt(3) == 0;
        one("image", x.image(taken), y.image(taken));
    }

    private void quiet(int m, int what) {
        one("quiet", x.quiet(m, what), y.quiet(m, what));
    }

    private void thought(int n, int law, int what) {
        one("thought", x.thought(n, law, what), y.thought(n, law, what));
    }

    private void ask(int people, int debts) {
        int what = near(0, 2);
        one("soonest " + what, x.soonest(what), y.soonest(what));
        int a = near(0, 5);
        int b = near(0, 9999);
        int c = near(0, 23);
        int d = near(0, 99);
        one("whom", x.whom(a, b, c, d), y.whom(a, b, c, d));
        a = near(0, 1);
        b = near(0, 3);
        boolean child = random.nextBoolean();
        boolean feast = random.nextBoolean();
        one("word", x.word(a, b, d, c, child, feast), y.word(a, b, d, c, child, feast));
        a = near(0, people - 1);
        one("does", x.does(a), y.does(a));
        b = near(0, 2);
        one("noise", x.noise(a, b), y.noise(a, b));
        b = near(0, Math.max(1, y.look(2)));
        c = near(0, 4);
        one("book", x.book(b, c), y.book(b, c));
        a = near(0, 12);
        one("look", x.look(a), y.look(a));
    }

    /** Beside each call: whatever else has changed, without counting as calls of the run. */
    private void look(int people, int debts) {
        for (int what = 0; what <= 12; what++) {
            check.due("run " + run + " behind call " + calls + " look " + what, x.look(what), y.look(what));
        }
        int who = random.nextInt(people);
        for (int what = 0; what < 10; what++) {
            check.due("run " + run + " behind call " + calls + " person", x.person(who, what), y.person(who, what));
        }
        int d = random.nextInt(debts);
        for (int what = 0; what < 8; what++) {
            check.due("run " + run + " behind call " + calls + " of", x.of(d, what), y.of(d, what));
        }
    }
}
