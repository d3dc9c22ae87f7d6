import java.util.ArrayList;
import java.util.List;

/** The document once more, written apart from the class and with no regard to room or speed. */
final class Model {
    static final class Person {
        int sort, place, loud, whispers, rule, coin, parent = -1;
        int[] noise;

        Person copy() {
            Person p = new Person();
            p.sort = sort; p.place = place; p.loud = loud; p.whispers = whispers; p.rule = rule;
            p.coin = coin; p.parent = parent; p.noise = noise;
            return p;
        }
    }

    static final class Debt {
        int debtor, creditor, left, part, proxy = -1, helpers, paid;

        Debt copy() {
            Debt d = new Debt();
            d.debtor = debtor; d.creditor = creditor; d.left = left; d.part = part;
            d.proxy = proxy; d.helpers = helpers; d.paid = paid;
            return d;
        }

        int worker() {
            return proxy >= 0 ? proxy : debtor;
        }
    }

    /** Debts by number as they were ahead, and hours left behind. */
    record Deal(List<Integer> numbers, List<Debt> ahead, List<Integer> behind, int from, int to, int price, boolean split) { }

    interface Node {
        int value(int[] vars);
    }

    record Line(int deed, Node when) { }

    static final class Fault extends RuntimeException {
        private static final long serialVersionUID = 1L;
        final int code, place;

        Fault(int code, int place) {
            this.code = code;
            this.place = place;
        }
    }

    static final class Things {
        int state, ringer = -1, ear = 5, falsity, order, feasts, law, day, quarter;
        int[] round = new int[24];
        int[][] wall = new int[6][6];
        List<Person> people = new ArrayList<>();
        List<Debt> debts = new ArrayList<>();
        List<List<Line>> texts = new ArrayList<>();
        List<int[]> book = new ArrayList<>();
        List<Deal> deals = new ArrayList<>();
        int[] counts = new int[4];

        Things() {
            for (int i = 0; i < 36; i++) {
                wall[i / 6][i % 6] = i / 6 == i % 6 ? 0 : 20;
            }
            for (int i = 0; i < 6; i++) {
                texts.add(List.of());
            }
        }

        Things copy() {
            Things t = new Things();
            t.state = state; t.ringer = ringer; t.ear = ear; t.falsity = falsity; t.order = order;
            t.feasts = feasts; t.law = law; t.day = day; t.quarter = quarter;
            t.round = round.clone();
            for (int i = 0; i < 6; i++) {
                t.wall[i] = wall[i].clone();
            }
            for (Person p : people) {
                t.people.add(p.copy());
            }
            for (Debt d : debts) {
                t.debts.add(d.copy());
            }
            t.texts = new ArrayList<>(texts);
            t.book = new ArrayList<>(book);
            t.deals = new ArrayList<>(deals);
            t.counts = counts.clone();
            return t;
        }

        int draw() {
            state = state * 1664525 + 1013904223;
            return (int) (((state & 0xffffffffL) >> 8) % 1000);
        }

        boolean feast(int d) {
            return feasts != 0 && d % feasts == 0;
        }

        static boolean night(int hour) {
            return !(hour >= 6 && hour < 22);
        }

        boolean word(int l, int sort, int loud, int hour, boolean child, boolean feast) {
            int[] vars = {loud, sort, hour, night(hour) ? 1 : 0, feast ? 1 : 0, child ? 1 : 0};
            for (Line line : texts.get(l)) {
                if (line.when.value(vars) != 0) {
                    return true;
                }
            }
            return false;
        }

        int sum(int who, int what) {
            int sum = 0;
            for (Debt d : debts) {
                int whose = what == 0 ? d.debtor : what == 1 ? d.creditor : d.worker();
                sum += whose == who ? d.left : 0;
            }
            return sum;
        }

        int deed(int who) {
            Person p = people.get(who);
            if (p.rule == 4) {
                return 0;
            }
            int with = -1;
            for (Person q : people) {
                with += q.place == p.place ? 1 : 0;
            }
            int hour = quarter / 4;
            int[] vars = {hour, quarter % 4, day, night(hour) ? 1 : 0, feast(day) ? 1 : 0, sum(who, 2), sum(who, 1), with};
            for (Line line : texts.get(2 + p.rule)) {
                if (line.when == null || line.when.value(vars) != 0) {
                    return line.deed;
                }
            }
            return 0;
        }

        void tellBook(int what, int who, int debt) {
            if (book.size() < 400) {
                book.add(new int[] {day, quarter, what, who, debt});
            }
        }

        boolean heard(int who) {
            Person p = people.get(who);
            return p.noise != null && p.noise[2] == 1
                && !(p.noise[1] - wall[p.place][round[quarter / 4]] < ear);
        }

        void quarterGoesBy() {
            int hour = quarter / 4;
            for (int i = 0; i < people.size(); i++) {
                Person p = people.get(i);
                p.noise = null;
                int sort = -1;
                int loud = 0;
                if (p.sort == 1) {
                    if (draw() < p.whispers) {
                        sort = 2;
                        loud = p.loud;
                    }
                } else if (p.sort == 0) {
                    if (night(hour)) {
                        if (draw() < p.whispers) {
                            sort = 1;
                            loud = p.loud / 2;
                        }
                    } else {
                        int deed = deed(i);
                        if (deed > 100) {
                            sort = 3;
                            loud = deed - 101;
                        } else if (deed > 0) {
                            sort = 0;
                            loud = deed - 1;
                        }
                    }
                }
                if (sort >= 0) {
                    p.noise = new int[] {sort, loud, word(law, sort, loud, hour, p.sort == 1, feast(day)) ? 1 : 0};
                }
            }
            if (ringer >= 0 && !feast(day)) {
                int[] n = people.get(ringer).noise;
                if (n != null && n[2] == 1) {
                    counts[3]++;
                    tellBook(3, ringer, -1);
                } else {
                    for (int w = 0; w < people.size(); w++) {
                        keep(w);
                    }
                }
            }
            if (++quarter == 96) {
                quarter = 0;
                day++;
            }
        }

        private void keep(int w) {
            int chosen = -1;
            for (int i = debts.size() - 1; i >= 0; i--) {
                Debt d = debts.get(i);
                if (d.left == 0 || d.worker() != w) {
                    continue;
                }
                if (chosen < 0 || order == 0 || order == 1 && d.left <= debts.get(chosen).left
                    || order == 2 && d.left >= debts.get(chosen).left) {
                    chosen = i;
                }
            }
            if (chosen < 0) {
                return;
            }
            Debt d = debts.get(chosen);
            boolean broken = heard(w);
            for (int c = 0; c < people.size(); c++) {
                broken |= people.get(c).sort == 1 && people.get(c).parent == w && heard(c);
            }
            int why = 1;
            if (!broken && falsity > 0 && draw() < falsity) {
                broken = true;
                why = 2;
                counts[2]++;
            }
            if (broken) {
                if (d.part > 0) {
                    counts[1]++;
                    tellBook(why, w, chosen);
                }
                d.part = 0;
                return;
            }
            d.part++;
            if (d.part == 4) {
                d.part = 0;
                d.left--;
                d.paid++;
                counts[0]++;
                tellBook(0, w, chosen);
                if (d.left == 0) {
                    tellBook(4, w, chosen);
                }
            }
        }
    }

    /** Reads as the grammar is written, level by level. */
    static final class Grammar {
        private static final List<String> LAW = List.of("loud", "sort", "hour", "night", "feast", "child");
        private static final List<String> RULE =
            List.of("hour", "quarter", "day", "night", "feast", "owes", "owed", "with");
        private final String s;
        private final boolean law;
        private int at;
        private String token;
        private int place;

        Grammar(String s, boolean law) {
            this.s = s;
            this.law = law;
            next();
        }

        private static boolean in(char c, String set) {
            return set.indexOf(c) >= 0;
        }

        private void next() {
            while (at < s.length() && in(s.charAt(at), " \n")) {
                at++;
            }
            place = at;
            if (at == s.length()) {
                token = "";
                return;
            }
            String letters = "abcdefghijklmnopqrstuvwxyzABCDEFGHIJKLMNOPQRSTUVWXYZ";
            String digits = "0123456789";
            String kind = in(s.charAt(at), letters) ? letters : in(s.charAt(at), digits) ? digits : null;
            at++;
            while (kind != null && at < s.length() && in(s.charAt(at), kind)) {
                at++;
            }
            token = s.substring(place, at);
        }

        private boolean number() {
            return !token.isEmpty() && Character.isDigit(token.charAt(0)) && token.length() <= 4;
        }

        private void eat(String t) {
            if (!token.equals(t)) {
                throw new Fault(1, place);
            }
            next();
        }

        List<Line> text() {
            List<Line> lines = new ArrayList<>();
            while (!token.isEmpty()) {
                boolean head = law ? token.equals("word")
                    : token.equals("talk") || token.equals("work") || token.equals("hush");
                if (!head) {
                    throw new Fault(1, place);
                }
                if (lines.size() == 16) {
                    throw new Fault(3, place);
                }
                String keyword = token;
                next();
                int deed = 0;
                if (keyword.equals("talk") || keyword.equals("work")) {
                    if (!number()) {
                        throw new Fault(1, place);
                    }
                    int n = Integer.parseInt(token);
                    if (n > 99) {
                        throw new Fault(2, place);
                    }
                    deed = n + (keyword.equals("talk") ? 1 : 101);
                    next();
                }
                Node when = null;
                if (law || token.equals("when")) {
                    eat("when");
                    when = b(0);
                }
                eat(";");
                lines.add(new Line(deed, when));
            }
            return lines;
        }

        private Node b(int open) {
            Node left = a(open);
            while (token.equals("or")) {
                next();
                Node l = left;
                Node r = a(open);
                left = v -> l.value(v) != 0 || r.value(v) != 0 ? 1 : 0;
            }
            return left;
        }

        private Node a(int open) {
            Node left = c(open);
            while (token.equals("and")) {
                next();
                Node l = left;
                Node r = c(open);
                left = v -> l.value(v) != 0 && r.value(v) != 0 ? 1 : 0;
            }
            return left;
        }

        private Node c(int open) {
            if (token.equals("not") || token.equals("(")) {
                if (open == 8) {
                    throw new Fault(3, place);
                }
                boolean not = token.equals("not");
                next();
                if (not) {
                    Node n = c(open + 1);
                    return v -> n.value(v) != 0 ? 0 : 1;
                }
                Node n = b(open + 1);
                eat(")");
                return n;
            }
            Node l = e();
            String sign = token;
            if (!sign.equals("<") && !sign.equals("=") && !sign.equals(">")) {
                throw new Fault(1, place);
            }
            next();
            Node r = e();
            return v -> {
                int x = l.value(v);
                int y = r.value(v);
                return (sign.equals("<") ? x < y : sign.equals("=") ? x == y : x > y) ? 1 : 0;
            };
        }

        private Node e() {
            Node left = t();
            while (token.equals("+") || token.equals("-")) {
                boolean plus = token.equals("+");
                next();
                Node l = left;
                Node r = t();
                left = v -> plus ? l.value(v) + r.value(v) : l.value(v) - r.value(v);
            }
            return left;
        }

        private Node t() {
            Node left = u();
            while (token.equals("*") || token.equals("/")) {
                boolean times = token.equals("*");
                next();
                Node l = left;
                if (times) {
                    Node r = u();
                    left = v -> l.value(v) * r.value(v);
                } else {
                    if (!number()) {
                        throw new Fault(1, place);
                    }
                    int n = Integer.parseInt(token);
                    if (n == 0) {
                        throw new Fault(2, place);
                    }
                    next();
                    left = v -> l.value(v) / n;
                }
            }
            return left;
        }

        private Node u() {
            if (number()) {
                int n = Integer.parseInt(token);
                next();
                return v -> n;
            }
            int i = (law ? LAW : RULE).indexOf(token);
            if (i < 0) {
                throw new Fault(1, place);
            }
            next();
            return v -> v[i];
        }
    }

    private Things now = new Things();
    private Things image;
    private StringBuilder tape = new StringBuilder();
    private int fault;
    private int faultPlace = -1;

    private boolean who(int w) {
        return w >= 0 && w < now.people.size();
    }

    private static boolean in(int v, int a, int b) {
        return v >= a && v <= b;
    }

    private boolean live(int d) {
        return d >= 0 && d < now.debts.size() && now.debts.get(d).left > 0;
    }

    int state(int v) {
        int was = now.state;
        now.state = v;
        return was;
    }

    int one(int sort, int place, int loud, int whispers, int rule) {
        if (!in(sort, 0, 2) || !in(place, 0, 5) || !in(loud, 0, 99) || !in(whispers, 0, 1000) || !in(rule, 0, 4)
            || now.people.size() == 12) {
            return -1;
        }
        Person p = new Person();
        p.sort = sort;
        p.place = place;
        p.loud = loud;
        p.whispers = whispers;
        p.rule = rule;
        now.people.add(p);
        return now.people.size() - 1;
    }

    boolean tell(int who, int what, int v) {
        if (!who(who)) {
            return false;
        }
        Person p = now.people.get(who);
        if (what == 0 && in(v, 0, 5)) {
            p.place = v;
        } else if (what == 1 && in(v, 0, 99)) {
            p.loud = v;
        } else if (what == 2 && in(v, 0, 1000)) {
            p.whispers = v;
        } else if (what == 3 && in(v, 0, 4)) {
            p.rule = v;
        } else if (what == 4 && in(v, 0, 99999)) {
            p.coin = v;
        } else if (what == 5 && p.sort == 1 && (v == -1 || who(v) && now.people.get(v).sort != 1)) {
            p.parent = v;
        } else {
            return false;
        }
        return true;
    }

    boolean wall(int a, int b, int v) {
        if (!in(a, 0, 5) || !in(b, 0, 5) || a == b || !in(v, 0, 99)) {
            return false;
        }
        now.wall[a][b] = v;
        now.wall[b][a] = v;
        return true;
    }

    boolean set(int what, int v) {
        if (what == 0 && (v == -1 || who(v))) {
            now.ringer = v;
        } else if (what == 1 && in(v, 0, 99)) {
            now.ear = v;
        } else if (what == 2 && in(v, 0, 1000)) {
            now.falsity = v;
        } else if (what == 3 && in(v, 0, 2)) {
            now.order = v;
        } else if (what == 4 && in(v, 0, 99)) {
            now.feasts = v;
        } else if (what == 5 && in(v, 0, 1)) {
            now.law = v;
        } else if (what == 6 && in(v, 0, 9999)) {
            now.day = v;
        } else if (what == 7 && in(v, 0, 95)) {
            now.quarter = v;
        } else if (in(what, 10, 33) && in(v, 0, 5)) {
            now.round[what - 10] = v;
        } else {
            return false;
        }
        return true;
    }

    int debt(int debtor, int creditor, int hours) {
        if (!who(debtor) || !who(creditor) || debtor == creditor || !in(hours, 1, 200) || now.debts.size() == 40) {
            return -1;
        }
        Debt d = new Debt();
        d.debtor = debtor;
        d.creditor = creditor;
        d.left = hours;
        now.debts.add(d);
        return now.debts.size() - 1;
    }

    boolean helpers(int debt, int set) {
        if (!in(debt, 0, now.debts.size() - 1) || set < 0) {
            return false;
        }
        for (int i = 0; i < 31; i++) {
            if ((set >> i & 1) == 1 && !who(i)) {
                return false;
            }
        }
        now.debts.get(debt).helpers = set;
        return true;
    }

    int of(int debt, int what) {
        if (!in(debt, 0, now.debts.size() - 1) || !in(what, 0, 7)) {
            return -2;
        }
        Debt d = now.debts.get(debt);
        int[] all = {d.debtor, d.creditor, d.left, d.part, d.proxy, d.helpers, d.worker(), d.paid};
        return all[what];
    }

    int feed(int a, int b, int c, int d, int e) {
        if (tape.length() > 380) {
            return -1;
        }
        for (int n : new int[] {a, b, c, d, e}) {
            tape.append((char) (n >>> 24)).append((char) (n >>> 16 & 255)).append((char) (n >>> 8 & 255));
            tape.append((char) (n & 255));
        }
        return tape.length();
    }

    boolean end(int n) {
        if (n < 0 || n > tape.length()) {
            return false;
        }
        tape.setLength(n);
        return true;
    }

    int text(int k) {
        String s = tape.toString();
        tape = new StringBuilder();
        fault = 0;
        faultPlace = -1;
        if (!in(k, 0, 5)) {
            return -1;
        }
        try {
            List<Line> lines = new Grammar(s, k < 2).text();
            now.texts.set(k, lines);
            return lines.size();
        } catch (Fault f) {
            fault = f.code;
            faultPlace = f.place;
            return -1;
        }
    }

    int fault(int what) {
        return what == 0 ? fault : what == 1 ? faultPlace : -1;
    }

    int does(int who) {
        return who(who) && now.people.get(who).sort == 0 ? now.deed(who) : -1;
    }

    int word(int law, int sort, int loud, int hour, boolean child, boolean feast) {
        if (!in(law, 0, 1) || !in(sort, 0, 3) || !in(loud, 0, 99) || !in(hour, 0, 23)) {
            return -1;
        }
        return now.word(law, sort, loud, hour, child, feast) ? 1 : 0;
    }

    int quarters(int n) {
        if (!in(n, 1, 960) || now.day * 96 + now.quarter + n >= 960000) {
            return -1;
        }
        int was = now.counts[0];
        for (int i = 0; i < n; i++) {
            now.quarterGoesBy();
        }
        return now.counts[0] - was;
    }

    int noise(int who, int what) {
        if (!who(who) || !in(what, 0, 2)) {
            return -2;
        }
        int[] n = now.people.get(who).noise;
        return n == null ? -1 : n[what];
    }

    private Deal deal(List<Integer> numbers, int from, int to, int price, boolean split) {
        List<Debt> ahead = new ArrayList<>();
        for (int d : numbers) {
            ahead.add(now.debts.get(d).copy());
        }
        return new Deal(numbers, ahead, new ArrayList<>(), from, to, price, split);
    }

    private void keep(Deal deal) {
        for (int d : deal.numbers) {
            deal.behind.add(now.debts.get(d).left);
        }
        pay(deal.from, deal.to, deal.price);
        now.deals.add(deal);
        if (now.deals.size() > 60) {
            now.deals.remove(0);
        }
    }

    private void pay(int from, int to, int price) {
        if (from >= 0 && to >= 0) {
            now.people.get(from).coin -= price;
            now.people.get(to).coin += price;
        }
    }

    boolean lend(int debt, int to, int price) {
        if (!live(debt) || !who(to) || !in(price, 0, 9999)) {
            return false;
        }
        Debt d = now.debts.get(debt);
        if (to == d.creditor || to == d.debtor || now.people.get(to).coin - price < 0) {
            return false;
        }
        Deal deal = deal(List.of(debt), to, d.creditor, price, false);
        d.creditor = to;
        keep(deal);
        return true;
    }

    int split(int debt, int k) {
        if (!live(debt) || !in(k, 1, 199) || now.debts.get(debt).left <= k || now.debts.size() == 40) {
            return -1;
        }
        Debt d = now.debts.get(debt);
        Debt born = d.copy();
        now.debts.add(born);
        Deal deal = deal(List.of(debt, now.debts.size() - 1), -1, -1, 0, true);
        d.left -= k;
        born.left = k;
        born.part = 0;
        born.paid = 0;
        keep(deal);
        return now.debts.size() - 1;
    }

    int inherit(int from, int to) {
        if (!who(from) || !who(to) || from == to) {
            return -1;
        }
        List<Integer> numbers = new ArrayList<>();
        for (int i = 0; i < now.debts.size(); i++) {
            if (live(i) && (now.debts.get(i).debtor == from || now.debts.get(i).creditor == from)) {
                numbers.add(i);
            }
        }
        if (numbers.isEmpty()) {
            return 0;
        }
        Deal deal = deal(numbers, -1, -1, 0, false);
        for (int i : numbers) {
            Debt d = now.debts.get(i);
            d.debtor = d.debtor == from ? to : d.debtor;
            d.creditor = d.creditor == from ? to : d.creditor;
            d.left = d.debtor == d.creditor ? 0 : d.left;
            d.proxy = d.proxy == d.debtor ? -1 : d.proxy;
        }
        keep(deal);
        return numbers.size();
    }

    boolean sell(int debt, int to, int price) {
        if (!live(debt) || !in(price, 0, 9999)) {
            return false;
        }
        Debt d = now.debts.get(debt);
        if (to != -1) {
            if (!who(to) || to == d.debtor || now.people.get(to).sort == 1 || now.people.get(d.debtor).coin < price) {
                return false;
            }
        }
        Deal deal = deal(List.of(debt), d.debtor, to, price, false);
        d.proxy = to;
        keep(deal);
        return true;
    }

    boolean undo() {
        if (now.deals.isEmpty()) {
            return false;
        }
        Deal deal = now.deals.get(now.deals.size() - 1);
        if (deal.split && deal.numbers.get(1) != now.debts.size() - 1) {
            return false;
        }
        for (int i = 0; i < deal.numbers.size(); i++) {
            if (now.debts.get(deal.numbers.get(i)).left != deal.behind.get(i)) {
                return false;
            }
        }
        for (int i = 0; i < deal.numbers.size(); i++) {
            Debt d = now.debts.get(deal.numbers.get(i));
            Debt old = deal.ahead.get(i);
            d.debtor = old.debtor;
            d.creditor = old.creditor;
            d.proxy = old.proxy;
            d.left = old.left;
        }
        if (deal.split) {
            now.debts.remove(now.debts.size() - 1);
        }
        pay(deal.to, deal.from, deal.price);
        now.deals.remove(now.deals.size() - 1);
        return true;
    }

    private int may(Debt d) {
        int set = 0;
        for (int p = 0; p < now.people.size(); p++) {
            boolean may = d.debtor == p || d.proxy == p || (d.helpers >> p & 1) == 1;
            if (may && now.people.get(p).sort != 1) {
                set |= 1 << p;
            }
        }
        return set;
    }

    int soonest(int what) {
        if (!in(what, 0, 2)) {
            return -1;
        }
        List<Debt> live = new ArrayList<>();
        int all = 0;
        int most = 0;
        int union = 0;
        boolean nobody = false;
        for (Debt d : now.debts) {
            if (d.left > 0) {
                live.add(d);
                all += d.left;
                most = Math.max(most, d.left);
                union |= may(d);
                nobody |= may(d) == 0;
            }
        }
        if (live.isEmpty()) {
            return 0;
        }
        if (what == 2) {
            int alone = 0;
            for (int p = 0; p < now.people.size(); p++) {
                alone = Math.max(alone, now.sum(p, 2));
            }
            return alone;
        }
        if (nobody) {
            return -1;
        }
        int bound = Math.max(most, -Math.floorDiv(-all, Integer.bitCount(union)));
        if (what == 1) {
            return bound;
        }
        int t = bound;
        while (!canBe(live, t)) {
            t++;
        }
        return t;
    }

    /** A greatest flow from debts to those who may, t at most for each. */
    private boolean canBe(List<Debt> live, int t) {
        int n = live.size();
        int people = now.people.size();
        int[][] flow = new int[n][people];
        int[] load = new int[people];
        for (int d = 0; d < n; d++) {
            int rest = live.get(d).left;
            while (rest > 0) {
                int[] from = new int[people];
                int[] came = new int[n];
                java.util.Arrays.fill(from, -1);
                java.util.Arrays.fill(came, -1);
                List<Integer> queue = new ArrayList<>(List.of(d));
                int found = -1;
                for (int q = 0; q < queue.size() && found < 0; q++) {
                    int x = queue.get(q);
                    for (int p = 0; p < people && found < 0; p++) {
                        if (from[p] >= 0 || (may(live.get(x)) >> p & 1) == 0) {
                            continue;
                        }
                        from[p] = x;
                        if (load[p] < t) {
                            found = p;
                        } else {
                            for (int y = 0; y < n; y++) {
                                if (flow[y][p] > 0 && came[y] < 0 && y != d) {
                                    came[y] = p;
                                    queue.add(y);
                                }
                            }
                        }
                    }
                }
                if (found < 0) {
                    return false;
                }
                int push = Math.min(rest, t - load[found]);
                for (int p = found; from[p] != d; p = came[from[p]]) {
                    push = Math.min(push, flow[from[p]][came[from[p]]]);
                }
                load[found] += push;
                int p = found;
                while (true) {
                    int x = from[p];
                    flow[x][p] += push;
                    if (x == d) {
                        break;
                    }
                    p = came[x];
                    flow[x][p] -= push;
                }
                rest -= push;
            }
        }
        return true;
    }

    int whom(int place, int day, int hour, int loud) {
        if (!in(place, 0, 5) || !in(day, 0, 9999) || !in(hour, 0, 23) || !in(loud, 0, 99)) {
            return -1;
        }
        int set = 0;
        for (int i = 0; i < now.people.size(); i++) {
            Person p = now.people.get(i);
            List<int[]> noises = new ArrayList<>();
            if (p.sort == 1 && p.whispers > 0) {
                noises.add(new int[] {2, p.loud});
            } else if (p.sort == 0 && Things.night(hour)) {
                if (p.whispers > 0) {
                    noises.add(new int[] {1, p.loud / 2});
                }
            } else if (p.sort == 0 && p.rule < 4) {
                for (Line line : now.texts.get(2 + p.rule)) {
                    if (line.deed > 0) {
                        noises.add(new int[] {line.deed > 100 ? 3 : 0, (line.deed - 1) % 100});
                    }
                }
            }
            for (int[] n : noises) {
                if (n[1] - now.wall[p.place][place] == loud
                    && now.word(now.law, n[0], n[1], hour, p.sort == 1, now.feast(day))) {
                    set |= 1 << i;
                }
            }
        }
        return set;
    }

    int quiet(int m, int what) {
        if (!in(m, 1, 8) || !in(what, 0, 2)) {
            return -1;
        }
        int least = -1;
        int greatest = -1;
        int none = 0;
        int state = now.state;
        for (int i = 0; i < m; i++) {
            Things t = now.copy();
            t.state = state;
            int n = 0;
            while (n <= 5760 && t.debts.stream().anyMatch(d -> d.left > 0)) {
                if (n < 5760) {
                    t.quarterGoesBy();
                }
                n++;
            }
            state = t.state;
            if (n > 5760) {
                none++;
                continue;
            }
            least = least < 0 || n < least ? n : least;
            greatest = Math.max(greatest, n);
        }
        return what == 0 ? least : what == 1 ? greatest : none;
    }

    private int[] think(int n, int law) {
        Things t = now.copy();
        t.law = law;
        for (int i = 0; i < n * 96; i++) {
            t.quarterGoesBy();
        }
        int[] come = new int[4];
        for (int i = 0; i < 4; i++) {
            come[i] = t.counts[i] - now.counts[i];
        }
        return come;
    }

    int thought(int n, int law, int what) {
        if (!in(n, 1, 30) || !in(law, -1, 1) || law >= 0 && !in(what, 0, 3)) {
            return -1;
        }
        if (law >= 0) {
            return think(n, law)[what];
        }
        int[] a = think(n, 0);
        int[] b = think(n, 1);
        return b[0] > a[0] || b[0] == a[0] && b[1] < a[1] ? 1 : 0;
    }

    int person(int who, int what) {
        if (!who(who) || !in(what, 0, 9)) {
            return -2;
        }
        Person p = now.people.get(who);
        int[] all = {p.sort, p.place, p.loud, p.whispers, p.rule, p.coin, p.parent,
            now.sum(who, 0), now.sum(who, 1), now.sum(who, 2)};
        return all[what];
    }

    int book(int i, int what) {
        return in(i, 0, now.book.size() - 1) && in(what, 0, 4) ? now.book.get(i)[what] : -1;
    }

    boolean image(boolean taken) {
        if (taken) {
            image = now.copy();
        } else if (image != null) {
            now = image.copy();
        }
        return image != null;
    }

    int look(int what) {
        if (!in(what, 0, 12)) {
            return -1;
        }
        int done = 0;
        int left = 0;
        for (Debt d : now.debts) {
            done += d.left == 0 ? 1 : 0;
            left += d.left;
        }
        int[] all = {now.people.size(), now.debts.size(), now.book.size(), now.day, now.quarter, now.counts[0],
            now.counts[1], now.counts[2], now.counts[3], done, left, now.deals.size(), now.state};
        return all[what];
    }
}
