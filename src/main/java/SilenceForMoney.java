import java.util.Arrays;

/** Debts of hours of silence, as the numbered promises of the document tell them. */
public final class SilenceForMoney {
    public static final int NONE = -1;

    private static final int NO_SUCH = NONE - 1;

    private static final int MAX_PEOPLE = 12;
    private static final int MAX_DEBTS = 40;
    private static final int MAX_HOURS = 200;
    private static final int MAX_SPLIT = 199;
    private static final int MAX_PRICE = 9999;
    private static final int MAX_BARGAINS = 60;
    private static final int MAX_LOUD = 99;
    private static final int MAX_BOOK = 400;
    private static final int MAX_TAPE = 400;
    private static final int MAX_LINES = 16;
    private static final int MAX_OPEN = 8;
    private static final int MAX_DAY = 9999;
    private static final int MAX_QUARTERS = 960;
    private static final int MAX_NIGHTS = 8;
    private static final int MAX_THOUGHT = 30;

    private static final int PLACES = 6;
    private static final int HOURS = 24;
    private static final int DAY_QUARTERS = 96;
    private static final int HOUR_QUARTERS = 4;
    private static final int QUIET_QUARTERS = 60 * DAY_QUARTERS;
    private static final int THOUSAND = 1000;

    private static final int GROWN = 0;
    private static final int CHILD = 1;
    private static final int MUTE = 2;

    private static final int TALK = 0;
    private static final int WHISPER = 1;
    private static final int CRY = 2;
    private static final int WORK = 3;

    private static final int LAWS = 2;
    private static final int RULES = 4;
    private static final int NO_RULE = RULES;

    /** What a deed is told as: 0 hushes, from here on talks, from there on works. */
    private static final int DEED_TALK = 1;
    private static final int DEED_WORK = 101;

    private static final int LINE_PAID = 0;
    private static final int LINE_WORD = 1;
    private static final int LINE_FALSE = 2;
    private static final int LINE_SPOKE = 3;
    private static final int LINE_DONE = 4;
    private static final int LINE_FIELDS = 5;

    private static final int OP_NUMBER = 0;
    private static final int OP_VALUE = 1;
    private static final int OP_PLUS = 2;
    private static final int OP_MINUS = 3;
    private static final int OP_TIMES = 4;
    private static final int OP_PART = 5;
    private static final int OP_LESS = 6;
    private static final int OP_SAME = 7;
    private static final int OP_MORE = 8;
    private static final int OP_NOT = 9;
    private static final int OP_AND = 10;
    private static final int OP_OR = 11;
    private static final int OP_BITS = 4;
    private static final int OP_MASK = 15;

    /** The greatest value that may be told, for tell() 0 .. 4. */
    private static final int[] TELL_MOST = {PLACES - 1, MAX_LOUD, THOUSAND, NO_RULE, 99999};
    private static final int TELL_PARENT = 5;

    /** The greatest value that may be told, for set() 0 .. 7; the RINGER's is asked elsewhere. */
    private static final int[] SET_MOST = {0, 99, THOUSAND, 2, 99, LAWS - 1, MAX_DAY, DAY_QUARTERS - 1};
    private static final int SET_ROUND = 10;

    private final World now;
    /** What is only thought: its BOOK needs no lines. */
    private final World dream;
    /** THE IMAGE; null till one is taken, as many an object never needs the room for it. */
    private World kept;
    private final Tape tape;
    private final Reader reader;

    public SilenceForMoney() {
        Text empty = new Text(0, new int[1], new int[0], new int[0]);
        now = new World(MAX_BOOK, empty);
        dream = new World(0, empty);
        kept = null;
        tape = new Tape();
        reader = new Reader();
    }

    public int state(int v) {
        int was = now.time.state;
        now.time.state = v;
        return was;
    }

    public int one(int sort, int place, int loud, int whispers, int rule) {
        if (!isWithin(sort, GROWN, MUTE) || now.people.count >= MAX_PEOPLE) {
            return NONE;
        }
        if (!isWithin(place, 0, TELL_MOST[0]) || !isWithin(loud, 0, TELL_MOST[1])
                || !isWithin(whispers, 0, TELL_MOST[2]) || !isWithin(rule, 0, TELL_MOST[3])) {
            return NONE;
        }
        return now.people.add(sort, place, loud, whispers, rule);
    }

    public boolean tell(int who, int what, int v) {
        People people = now.people;
        if (!people.has(who)) {
            return false;
        }
        if (what == TELL_PARENT) {
            return people.giveParent(who, v);
        }
        if (!isWithin(what, 0, TELL_PARENT - 1) || !isWithin(v, 0, TELL_MOST[what])) {
            return false;
        }
        people.change(who, what, v);
        return true;
    }

    public boolean wall(int a, int b, int v) {
        if (!isPlace(a) || !isPlace(b) || a == b || !isWithin(v, 0, 99)) {
            return false;
        }
        now.town.putWall(a, b, v);
        return true;
    }

    public boolean set(int what, int v) {
        if (what == 0) {
            if (v != NONE && !now.people.has(v)) {
                return false;
            }
            now.town.ringer = v;
            return true;
        }
        if (isWithin(what, SET_ROUND, SET_ROUND + HOURS - 1)) {
            if (!isPlace(v)) {
                return false;
            }
            now.town.round[what - SET_ROUND] = v;
            return true;
        }
        if (!isWithin(what, 1, SET_MOST.length - 1) || !isWithin(v, 0, SET_MOST[what])) {
            return false;
        }
        now.change(what, v);
        return true;
    }

    public int debt(int debtor, int creditor, int hours) {
        if (!now.people.has(debtor) || !now.people.has(creditor) || debtor == creditor) {
            return NONE;
        }
        if (!isWithin(hours, 1, MAX_HOURS)) {
            return NONE;
        }
        return now.debts.add(debtor, creditor, hours);
    }

    public boolean helpers(int debt, int set) {
        if (!now.debts.has(debt) || !isWithin(set, 0, (1 << now.people.count) - 1)) {
            return false;
        }
        now.debts.helperSet[debt] = set;
        return true;
    }

    public int of(int debt, int what) {
        if (!now.debts.has(debt)) {
            return NO_SUCH;
        }
        return now.debts.tellOf(debt, what);
    }

    public int feed(int a, int b, int c, int d, int e) {
        if (tape.length + 20 > MAX_TAPE) {
            return NONE;
        }
        tape.put(a);
        tape.put(b);
        tape.put(c);
        tape.put(d);
        tape.put(e);
        return tape.length;
    }

    public boolean end(int n) {
        if (!isWithin(n, 0, tape.length)) {
            return false;
        }
        tape.length = n;
        return true;
    }

    public int text(int k) {
        if (!isWithin(k, 0, LAWS + RULES - 1)) {
            reader.forget();
            tape.length = 0;
            return NONE;
        }
        Text made = reader.read(tape, k < LAWS);
        tape.length = 0;
        if (made == null) {
            return NONE;
        }
        now.texts[k] = made;
        return made.lines;
    }

    public int fault(int what) {
        if (what == 0) {
            return reader.fault;
        }
        return what == 1 ? reader.faultPlace : NONE;
    }

    public int does(int who) {
        if (!now.people.has(who) || now.people.sort[who] != GROWN) {
            return NONE;
        }
        now.debts.tally();
        return now.deedOf(who);
    }

    public int word(int law, int sort, int loud, int hour, boolean child, boolean feast) {
        if (!isLaw(law) || !isWithin(sort, TALK, WORK) || !isWithin(loud, 0, MAX_LOUD) || !isHour(hour)) {
            return NONE;
        }
        return now.isWord(law, sort, loud, hour, child, feast) ? 1 : 0;
    }

    public int quarters(int n) {
        if (!isWithin(n, 1, MAX_QUARTERS)) {
            return NONE;
        }
        if (now.time.day + (now.time.quarter + n) / DAY_QUARTERS > MAX_DAY) {
            return NONE;
        }
        int paid = now.book.paid;
        for (int i = 0; i < n; i++) {
            now.pass();
        }
        return now.book.paid - paid;
    }

    public int noise(int who, int what) {
        if (!now.people.has(who) || !isWithin(what, 0, 2)) {
            return NO_SUCH;
        }
        return now.people.noiseOf(who, what);
    }

    public boolean lend(int debt, int to, int price) {
        return now.bargains.lendOn(now.debts, now.people, debt, to, price);
    }

    public int split(int debt, int k) {
        return now.bargains.splitOff(now.debts, debt, k);
    }

    public int inherit(int from, int to) {
        if (!now.people.has(from) || !now.people.has(to) || from == to) {
            return NONE;
        }
        return now.bargains.handDown(now.debts, from, to);
    }

    public boolean sell(int debt, int to, int price) {
        return now.bargains.sellOn(now.debts, now.people, debt, to, price);
    }

    public boolean undo() {
        return now.bargains.goBack(now.debts, now.people);
    }

    public int soonest(int what) {
        if (!isWithin(what, 0, 2)) {
            return NONE;
        }
        Debts debts = now.debts;
        if (what == 2) {
            return debts.aloneHours();
        }
        if (!debts.findWhoMay(now.people)) {
            return NONE;
        }
        return what == 0 ? debts.bestHours(now.people.count) : debts.boundHours();
    }

    public int whom(int place, int day, int hour, int loud) {
        if (!isPlace(place) || !isWithin(day, 0, MAX_DAY) || !isHour(hour) || !isWithin(loud, 0, MAX_LOUD)) {
            return NONE;
        }
        return now.byWhom(place, now.time.isFeastOn(day), hour, loud);
    }

    public int quiet(int m, int what) {
        if (!isWithin(m, 1, MAX_NIGHTS) || !isWithin(what, 0, 2)) {
            return NONE;
        }
        int least = NONE;
        int greatest = NONE;
        int never = 0;
        int state = now.time.state;
        for (int i = 0; i < m; i++) {
            dream.copyFrom(now);
            dream.time.state = state;
            int till = dream.tillQuiet();
            state = dream.time.state;
            if (till == NONE) {
                never++;
            } else {
                least = least == NONE ? till : Math.min(least, till);
                greatest = Math.max(greatest, till);
            }
        }
        if (what == 2) {
            return never;
        }
        return what == 0 ? least : greatest;
    }

    public int thought(int n, int law, int what) {
        if (!isWithin(n, 1, MAX_THOUGHT)) {
            return NONE;
        }
        if (law == NONE) {
            think(n, 0);
            int paid = dream.book.paid;
            int again = dream.book.again;
            think(n, 1);
            return dream.book.isBetterThan(paid, again) ? 1 : 0;
        }
        if (!isLaw(law) || !isWithin(what, 0, 3)) {
            return NONE;
        }
        think(n, law);
        return dream.book.countOf(what) - now.book.countOf(what);
    }

    public int person(int who, int what) {
        if (!now.people.has(who)) {
            return NO_SUCH;
        }
        if (isWithin(what, 7, 9)) {
            return now.debts.hoursOf(who, what - 7);
        }
        return now.people.tellOf(who, what);
    }

    public int book(int i, int what) {
        if (!isWithin(i, 0, now.book.count - 1) || !isWithin(what, 0, LINE_FIELDS - 1)) {
            return NONE;
        }
        return now.book.lines[i * LINE_FIELDS + what];
    }

    public boolean image(boolean taken) {
        if (taken) {
            if (kept == null) {
                kept = new World(MAX_BOOK, now.texts[0]);
            }
            kept.copyFrom(now);
            return true;
        }
        if (kept == null) {
            return false;
        }
        now.copyFrom(kept);
        return true;
    }

    public int look(int what) {
        switch (what) {
            case 0: return now.people.count;
            case 1: return now.debts.count;
            case 2: return now.book.count;
            case 3: return now.time.day;
            case 4: return now.time.quarter;
            case 5:
            case 6:
            case 7:
            case 8: return now.book.countOf(what - 5);
            case 9: return now.debts.doneCount();
            case 10: return now.debts.allHours();
            case 11: return now.bargains.count;
            case 12: return now.time.state;
            default: return NONE;
        }
    }

    private void think(int n, int law) {
        dream.copyFrom(now);
        dream.town.law = law;
        for (int i = 0; i < n * DAY_QUARTERS; i++) {
            dream.pass();
        }
    }

    private static boolean isWithin(int v, int least, int most) {
        return v >= least && v <= most;
    }

    private static boolean isPlace(int v) {
        return v >= 0 && v < PLACES;
    }

    private static boolean isHour(int v) {
        return v >= 0 && v < HOURS;
    }

    private static boolean isLaw(int v) {
        return v >= 0 && v < LAWS;
    }

    private static boolean isNightIn(int hour) {
        return hour < 6 || hour >= 22;
    }

    /** A quotient upwards. */
    private static int upwards(int hours, int by) {
        return by > 0 ? (hours + by - 1) / by : 0;
    }

    /** STATE, DAY, QUARTER and FEASTS. */
    private static final class Time {
        int state;
        int day;
        int quarter;
        int feasts;

        void copyFrom(Time other) {
            state = other.state;
            day = other.day;
            quarter = other.quarter;
            feasts = other.feasts;
        }

        int draw(int m) {
            state = 1664525 * state + 1013904223;
            return m > 0 ? (state >>> 8) % m : 0;
        }

        int hour() {
            return quarter / HOUR_QUARTERS;
        }

        boolean isNight() {
            return isNightIn(hour());
        }

        boolean isFeast() {
            return isFeastOn(day);
        }

        boolean isFeastOn(int someDay) {
            return feasts > 0 && someDay % feasts == 0;
        }

        void goOn() {
            quarter++;
            if (quarter >= DAY_QUARTERS) {
                quarter = 0;
                day++;
            }
        }
    }

    /** WALLS, the ROUND and what else is told of the RINGER. */
    private static final class Town {
        final int[] walls = new int[PLACES * PLACES];
        final int[] round = new int[HOURS];
        int ringer = NONE;
        int ear = 5;
        int falsely;
        int order;
        int law;

        Town() {
            Arrays.fill(walls, 20);
            for (int i = 0; i < PLACES; i++) {
                walls[i * PLACES + i] = 0;
            }
        }

        void copyFrom(Town other) {
            System.arraycopy(other.walls, 0, walls, 0, walls.length);
            System.arraycopy(other.round, 0, round, 0, round.length);
            ringer = other.ringer;
            ear = other.ear;
            falsely = other.falsely;
            order = other.order;
            law = other.law;
        }

        void putWall(int a, int b, int v) {
            walls[a * PLACES + b] = v;
            walls[b * PLACES + a] = v;
        }

        int wallBetween(int a, int b) {
            int at = a * PLACES + b;
            return at >= 0 && at < walls.length ? walls[at] : 0;
        }

        int placeAt(int hour) {
            return hour >= 0 && hour < round.length ? round[hour] : 0;
        }
    }

    /** PEOPLE, and the NOISE that each of them made in the QUARTER that went by last. */
    private static final class People {
        int count;
        final int[] sort = new int[MAX_PEOPLE];
        final int[] place = new int[MAX_PEOPLE];
        final int[] loud = new int[MAX_PEOPLE];
        final int[] whispers = new int[MAX_PEOPLE];
        final int[] rule = new int[MAX_PEOPLE];
        final int[] coin = new int[MAX_PEOPLE];
        final int[] parent = new int[MAX_PEOPLE];
        final int[] noiseSort = new int[MAX_PEOPLE];
        final int[] noiseLoud = new int[MAX_PEOPLE];
        final int[] noiseWord = new int[MAX_PEOPLE];

        void copyFrom(People other) {
            count = other.count;
            System.arraycopy(other.sort, 0, sort, 0, MAX_PEOPLE);
            System.arraycopy(other.place, 0, place, 0, MAX_PEOPLE);
            System.arraycopy(other.loud, 0, loud, 0, MAX_PEOPLE);
            System.arraycopy(other.whispers, 0, whispers, 0, MAX_PEOPLE);
            System.arraycopy(other.rule, 0, rule, 0, MAX_PEOPLE);
            System.arraycopy(other.coin, 0, coin, 0, MAX_PEOPLE);
            System.arraycopy(other.parent, 0, parent, 0, MAX_PEOPLE);
            System.arraycopy(other.noiseSort, 0, noiseSort, 0, MAX_PEOPLE);
            System.arraycopy(other.noiseLoud, 0, noiseLoud, 0, MAX_PEOPLE);
            System.arraycopy(other.noiseWord, 0, noiseWord, 0, MAX_PEOPLE);
        }

        boolean has(int who) {
            return who >= 0 && who < count;
        }

        boolean isNoChild(int who) {
            return has(who) && sort[who] != CHILD;
        }

        int add(int newSort, int newPlace, int newLoud, int newWhispers, int newRule) {
            int who = count;
            if (who >= MAX_PEOPLE) {
                return NONE;
            }
            sort[who] = newSort;
            place[who] = newPlace;
            loud[who] = newLoud;
            whispers[who] = newWhispers;
            rule[who] = newRule;
            coin[who] = 0;
            parent[who] = NONE;
            hush(who);
            count++;
            return who;
        }

        boolean giveParent(int who, int v) {
            if (sort[who] != CHILD) {
                return false;
            }
            if (v != NONE && !isNoChild(v)) {
                return false;
            }
            parent[who] = v;
            return true;
        }

        void change(int who, int what, int v) {
            switch (what) {
                case 0: place[who] = v; break;
                case 1: loud[who] = v; break;
                case 2: whispers[who] = v; break;
                case 3: rule[who] = v; break;
                case 4: coin[who] = v; break;
                default: break;
            }
        }

        int tellOf(int who, int what) {
            switch (what) {
                case 0: return sort[who];
                case 1: return place[who];
                case 2: return loud[who];
                case 3: return whispers[who];
                case 4: return rule[who];
                case 5: return coin[who];
                case 6: return parent[who];
                default: return NO_SUCH;
            }
        }

        void hush(int who) {
            noiseSort[who] = NONE;
            noiseLoud[who] = NONE;
            noiseWord[who] = NONE;
        }

        int noiseOf(int who, int what) {
            if (what == 0) {
                return noiseSort[who];
            }
            return what == 1 ? noiseLoud[who] : noiseWord[who];
        }

        int othersWith(int who) {
            int others = 0;
            for (int i = 0; i < count; i++) {
                if (i != who && place[i] == place[who]) {
                    others++;
                }
            }
            return others;
        }

        /** Those who may keep quiet in whole HOURS at all: a child may not. */
        int noChildren() {
            int set = 0;
            for (int i = 0; i < count; i++) {
                if (sort[i] != CHILD) {
                    set |= 1 << i;
                }
            }
            return set;
        }

        void pay(int payer, int payee, int price) {
            if (has(payer) && has(payee)) {
                coin[payer] -= price;
                coin[payee] += price;
            }
        }
    }

    /** DEBTS, and what is reckoned from them. */
    private static final class Debts {
        int count;
        final int[] debtor = new int[MAX_DEBTS];
        final int[] creditor = new int[MAX_DEBTS];
        final int[] left = new int[MAX_DEBTS];
        final int[] part = new int[MAX_DEBTS];
        final int[] proxy = new int[MAX_DEBTS];
        final int[] helperSet = new int[MAX_DEBTS];
        final int[] paid = new int[MAX_DEBTS];
        /** Reckoned by findWhoMay() and tally(), and no longer true when DEBTS change. */
        final int[] may = new int[MAX_DEBTS];
        final int[] owes = new int[MAX_PEOPLE];
        final int[] owed = new int[MAX_PEOPLE];

        void copyFrom(Debts other) {
            count = other.count;
            System.arraycopy(other.debtor, 0, debtor, 0, MAX_DEBTS);
            System.arraycopy(other.creditor, 0, creditor, 0, MAX_DEBTS);
            System.arraycopy(other.left, 0, left, 0, MAX_DEBTS);
            System.arraycopy(other.part, 0, part, 0, MAX_DEBTS);
            System.arraycopy(other.proxy, 0, proxy, 0, MAX_DEBTS);
            System.arraycopy(other.helperSet, 0, helperSet, 0, MAX_DEBTS);
            System.arraycopy(other.paid, 0, paid, 0, MAX_DEBTS);
        }

        boolean has(int d) {
            return d >= 0 && d < count;
        }

        boolean isOpen(int d) {
            return has(d) && left[d] > 0;
        }

        boolean isOpenWith(int d, int who) {
            return isOpen(d) && (debtor[d] == who || creditor[d] == who);
        }

        int openCountWith(int who) {
            int open = 0;
            for (int d = 0; d < count; d++) {
                if (isOpenWith(d, who)) {
                    open++;
                }
            }
            return open;
        }

        /** One DEBT goes from one to another in an INHERIT. */
        void handDown(int d, int from, int to) {
            if (debtor[d] == from) {
                debtor[d] = to;
            } else {
                creditor[d] = to;
            }
            if (proxy[d] == debtor[d]) {
                proxy[d] = NONE;
            }
            if (debtor[d] == creditor[d]) {
                left[d] = 0;
            }
        }

        int add(int newDebtor, int newCreditor, int hours) {
            int d = count;
            if (d >= MAX_DEBTS) {
                return NONE;
            }
            debtor[d] = newDebtor;
            creditor[d] = newCreditor;
            left[d] = hours;
            part[d] = 0;
            proxy[d] = NONE;
            helperSet[d] = 0;
            paid[d] = 0;
            count++;
            return d;
        }

        int workerOf(int d) {
            return proxy[d] != NONE ? proxy[d] : debtor[d];
        }

        int tellOf(int d, int what) {
            switch (what) {
                case 0: return debtor[d];
                case 1: return creditor[d];
                case 2: return left[d];
                case 3: return part[d];
                case 4: return proxy[d];
                case 5: return helperSet[d];
                case 6: return workerOf(d);
                case 7: return paid[d];
                default: return NO_SUCH;
            }
        }

        int allHours() {
            int hours = 0;
            for (int d = 0; d < count; d++) {
                hours += left[d];
            }
            return hours;
        }

        int doneCount() {
            int done = 0;
            for (int d = 0; d < count; d++) {
                if (left[d] == 0) {
                    done++;
                }
            }
            return done;
        }

        /** HOURS LEFT that one owes (0), that are owed to him (1), for which he is the WORKER (2). */
        int hoursOf(int who, int what) {
            int hours = 0;
            for (int d = 0; d < count; d++) {
                int whose = what == 0 ? debtor[d] : what == 1 ? creditor[d] : workerOf(d);
                if (whose == who) {
                    hours += left[d];
                }
            }
            return hours;
        }

        /** One pass for all PEOPLE: RULES ask for these sums in every QUARTER of a long thought. */
        void tally() {
            Arrays.fill(owes, 0);
            Arrays.fill(owed, 0);
            for (int d = 0; d < count; d++) {
                int worker = workerOf(d);
                int lender = creditor[d];
                if (worker >= 0 && worker < MAX_PEOPLE && lender >= 0 && lender < MAX_PEOPLE) {
                    owes[worker] += left[d];
                    owed[lender] += left[d];
                }
            }
        }

        boolean goesAhead(int d, int other, int order) {
            if (order == 0) {
                return false;
            }
            return order == 1 ? left[d] < left[other] : left[d] > left[other];
        }

        /** Finds for each open DEBT who may keep quiet for it: false if nobody may for one. */
        boolean findWhoMay(People people) {
            int able = people.noChildren();
            boolean all = true;
            for (int d = 0; d < count; d++) {
                int set = helperSet[d] | (1 << debtor[d]);
                if (proxy[d] != NONE) {
                    set |= 1 << proxy[d];
                }
                may[d] = set & able;
                if (left[d] > 0 && may[d] == 0) {
                    all = false;
                }
            }
            return all;
        }

        private int greatestLeft() {
            int most = 0;
            for (int d = 0; d < count; d++) {
                most = Math.max(most, left[d]);
            }
            return most;
        }

        private int hoursOnlyFor(int set) {
            int hours = 0;
            for (int d = 0; d < count; d++) {
                if ((may[d] & ~set) == 0) {
                    hours += left[d];
                }
            }
            return hours;
        }

        /** A parting with none above T exists just if no set of people alone has more than T each (Hall). */
        int bestHours(int people) {
            int best = greatestLeft();
            if (best == 0) {
                return 0;
            }
            for (int set = 1; set < 1 << people; set++) {
                best = Math.max(best, upwards(hoursOnlyFor(set), Integer.bitCount(set)));
            }
            return best;
        }

        int boundHours() {
            int whoever = 0;
            for (int d = 0; d < count; d++) {
                if (left[d] > 0) {
                    whoever |= may[d];
                }
            }
            return Math.max(greatestLeft(), upwards(allHours(), Integer.bitCount(whoever)));
        }

        int aloneHours() {
            tally();
            int most = 0;
            for (int i = 0; i < MAX_PEOPLE; i++) {
                most = Math.max(most, owes[i]);
            }
            return most;
        }
    }

    /** THE BOOK and the COUNTS. */
    private static final class Book {
        private final int most;
        final int[] lines;
        int count;
        int paid;
        int again;
        int falseStrikes;
        int spoke;

        Book(int newMost) {
            most = Math.max(0, Math.min(newMost, MAX_BOOK));
            lines = new int[most * LINE_FIELDS];
        }

        /** As many lines as there is room for. */
        void copyFrom(Book other) {
            count = Math.min(other.count, most);
            System.arraycopy(other.lines, 0, lines, 0, count * LINE_FIELDS);
            paid = other.paid;
            again = other.again;
            falseStrikes = other.falseStrikes;
            spoke = other.spoke;
        }

        void write(Time time, int what, int who, int d) {
            if (count >= most) {
                return;
            }
            int at = count * LINE_FIELDS;
            lines[at] = time.day;
            lines[at + 1] = time.quarter;
            lines[at + 2] = what;
            lines[at + 3] = who;
            lines[at + 4] = d;
            count++;
        }

        boolean isBetterThan(int otherPaid, int otherAgain) {
            return paid == otherPaid ? again < otherAgain : paid > otherPaid;
        }

        int countOf(int what) {
            switch (what) {
                case 0: return paid;
                case 1: return again;
                case 2: return falseStrikes;
                default: return spoke;
            }
        }
    }

    /** A BARGAIN that is kept: its DEBTS as they were ahead of it. Nothing of it changes once it is kept. */
    private static final class Bargain {
        /** Of each DEBT: its number, then as it was ahead, then HOURS LEFT just behind. */
        private static final int DEBT = 0;
        private static final int DEBTOR = 1;
        private static final int CREDITOR = 2;
        private static final int PROXY = 3;
        private static final int LEFT = 4;
        private static final int BEHIND = 5;
        private static final int FIELDS = 6;

        private final int payer;
        private final int payee;
        private final int price;
        private final int[] rows;
        private int taken;
        /** The DEBT that a SPLIT made, else NONE. */
        private int born = NONE;

        Bargain(int newPayer, int newPayee, int newPrice, int howManyDebts) {
            payer = newPayer;
            payee = newPayee;
            price = newPrice;
            rows = new int[Math.max(0, Math.min(howManyDebts, MAX_DEBTS)) * FIELDS];
        }

        /** Told ahead of what is done to a DEBT. */
        void takeIn(Debts debts, int d) {
            int at = taken * FIELDS;
            if (at + FIELDS > rows.length || !debts.has(d)) {
                return;
            }
            rows[at + DEBT] = d;
            rows[at + DEBTOR] = debts.debtor[d];
            rows[at + CREDITOR] = debts.creditor[d];
            rows[at + PROXY] = debts.proxy[d];
            rows[at + LEFT] = debts.left[d];
            rows[at + BEHIND] = debts.left[d];
            taken++;
        }

        /** Told behind it, of the DEBT that was taken in last. */
        void leaves(int hours) {
            if (taken >= 1) {
                rows[(taken - 1) * FIELDS + BEHIND] = hours;
            }
        }

        void bears(int d) {
            born = d;
        }

        boolean canGoBack(Debts debts) {
            if (born != NONE && born != debts.count - 1) {
                return false;
            }
            for (int i = 0; i < taken; i++) {
                int d = rows[i * FIELDS + DEBT];
                if (!debts.has(d) || debts.left[d] != rows[i * FIELDS + BEHIND]) {
                    return false;
                }
            }
            return true;
        }

        void goBack(Debts debts, People people) {
            for (int i = 0; i < taken; i++) {
                int at = i * FIELDS;
                int d = rows[at + DEBT];
                if (debts.has(d)) {
                    debts.debtor[d] = rows[at + DEBTOR];
                    debts.creditor[d] = rows[at + CREDITOR];
                    debts.proxy[d] = rows[at + PROXY];
                    debts.left[d] = rows[at + LEFT];
                }
            }
            if (born != NONE) {
                debts.count--;
            }
            people.pay(payee, payer, price);
        }
    }

    /** The BARGAINS that are kept, the oldest first, and how new ones are made. */
    private static final class Bargains {
        int count;
        private final Bargain[] rows = new Bargain[MAX_BARGAINS];

        /** The rows may be shared, as a BARGAIN does not change. */
        void copyFrom(Bargains other) {
            count = other.count;
            for (int i = 0; i < rows.length; i++) {
                rows[i] = other.rows[i];
            }
        }

        private void keep(Bargain bargain) {
            if (count >= MAX_BARGAINS) {
                for (int i = 1; i < MAX_BARGAINS; i++) {
                    rows[i - 1] = rows[i];
                }
                count = MAX_BARGAINS - 1;
            }
            rows[count] = bargain;
            count++;
        }

        boolean lendOn(Debts debts, People people, int d, int to, int price) {
            if (!debts.isOpen(d) || !people.has(to) || !isWithin(price, 0, MAX_PRICE)) {
                return false;
            }
            int from = debts.creditor[d];
            if (to == from || to == debts.debtor[d] || people.coin[to] < price) {
                return false;
            }
            Bargain bargain = new Bargain(to, from, price, 1);
            bargain.takeIn(debts, d);
            debts.creditor[d] = to;
            people.pay(to, from, price);
            keep(bargain);
            return true;
        }

        int splitOff(Debts debts, int d, int k) {
            if (!debts.isOpen(d) || !isWithin(k, 1, MAX_SPLIT) || debts.left[d] <= k || debts.count >= MAX_DEBTS) {
                return NONE;
            }
            Bargain bargain = new Bargain(NONE, NONE, 0, 2);
            bargain.takeIn(debts, d);
            debts.left[d] -= k;
            bargain.leaves(debts.left[d]);
            int born = debts.add(debts.debtor[d], debts.creditor[d], k);
            if (debts.has(born)) {
                debts.proxy[born] = debts.proxy[d];
                debts.helperSet[born] = debts.helperSet[d];
            }
            bargain.takeIn(debts, born);
            bargain.bears(born);
            keep(bargain);
            return born;
        }

        int handDown(Debts debts, int from, int to) {
            int changed = debts.openCountWith(from);
            if (changed == 0) {
                return 0;
            }
            Bargain bargain = new Bargain(NONE, NONE, 0, changed);
            for (int d = 0; d < debts.count; d++) {
                if (debts.isOpenWith(d, from)) {
                    bargain.takeIn(debts, d);
                    debts.handDown(d, from, to);
                    bargain.leaves(debts.left[d]);
                }
            }
            keep(bargain);
            return changed;
        }

        boolean sellOn(Debts debts, People people, int d, int to, int price) {
            if (!debts.isOpen(d) || !isWithin(price, 0, MAX_PRICE)) {
                return false;
            }
            int debtor = debts.debtor[d];
            if (to != NONE && (to == debtor || !people.isNoChild(to) || people.coin[debtor] < price)) {
                return false;
            }
            Bargain bargain = new Bargain(debtor, to, price, 1);
            bargain.takeIn(debts, d);
            debts.proxy[d] = to;
            people.pay(debtor, to, price);
            keep(bargain);
            return true;
        }

        boolean goBack(Debts debts, People people) {
            if (count < 1) {
                return false;
            }
            Bargain last = rows[count - 1];
            if (last == null || !last.canGoBack(debts)) {
                return false;
            }
            last.goBack(debts, people);
            count--;
            return true;
        }
    }

    /** A LAW or a RULE: its lines' conditions in one row, each operand ahead of its sign. Never changed. */
    private static final class Text {
        /** Eight open brackets keep at most two values each beneath those of a comparison. */
        static final int MAX_STACK = 32;

        final int lines;
        /** Where each line's condition begins, and behind the last one the end. */
        private final int[] start;
        private final int[] deed;
        private final int[] code;

        Text(int newLines, int[] newStart, int[] newDeed, int[] newCode) {
            lines = newLines;
            start = newStart;
            deed = newDeed;
            code = newCode;
        }

        int deedOf(int line) {
            return line >= 0 && line < deed.length ? deed[line] : 0;
        }

        /** The first line whose condition is so, or that has none; NONE without such a one. */
        int firstLine(int[] values, int[] stack) {
            for (int i = 0; i < lines && i + 1 < start.length; i++) {
                if (start[i] == start[i + 1] || isSo(start[i], start[i + 1], values, stack)) {
                    return i;
                }
            }
            return NONE;
        }

        private boolean isSo(int from, int to, int[] values, int[] stack) {
            int top = 0;
            for (int i = from; i < to && i < code.length; i++) {
                int op = code[i] & OP_MASK;
                int operand = code[i] >> OP_BITS;
                if (op == OP_NUMBER || op == OP_VALUE) {
                    if (top < stack.length) {
                        stack[top] = op == OP_NUMBER ? operand : valueAt(values, operand);
                        top++;
                    }
                } else if (op == OP_PART) {
                    if (top >= 1 && operand > 0) {
                        stack[top - 1] /= operand;
                    }
                } else if (op == OP_NOT) {
                    if (top >= 1) {
                        stack[top - 1] = 1 - stack[top - 1];
                    }
                } else if (top >= 2) {
                    top--;
                    stack[top - 1] = join(op, stack[top - 1], stack[top]);
                }
            }
            return top >= 1 && stack[0] != 0;
        }

        private static int valueAt(int[] values, int i) {
            return i >= 0 && i < values.length ? values[i] : 0;
        }

        private static int join(int op, int a, int b) {
            switch (op) {
                case OP_PLUS: return a + b;
                case OP_MINUS: return a - b;
                case OP_TIMES: return a * b;
                case OP_LESS: return a < b ? 1 : 0;
                case OP_SAME: return a == b ? 1 : 0;
                case OP_MORE: return a > b ? 1 : 0;
                case OP_AND: return a & b;
                case OP_OR: return a | b;
                default: return 0;
            }
        }
    }

    /** The TAPE. */
    private static final class Tape {
        final int[] bytes = new int[MAX_TAPE];
        int length;

        void put(int four) {
            for (int shift = 24; shift >= 0; shift -= 8) {
                if (length < MAX_TAPE) {
                    bytes[length] = four >>> shift & 255;
                    length++;
                }
            }
        }
    }

    /** Makes a LAW or a RULE of the TAPE, or tells its first FAULT. */
    private static final class Reader {
        private static final String LAW_WORDS = "when or and not word loud sort hour night feast child";
        private static final String RULE_WORDS =
                "when or and not talk work hush hour quarter day night feast owes owed with";

        private static final int CANNOT_STAND = 1;
        private static final int BAD_NUMBER = 2;
        private static final int TOO_MANY = 3;

        /** Kinds of tokens: a sign is its own character (40 .. 62), a KEYWORD its place in the words. */
        private static final int THE_END = 0;
        private static final int NUMBER = 1;
        private static final int NO_TOKEN = 2;
        private static final int KEYWORD = 100;
        private static final int WHEN = KEYWORD;
        private static final int OR = KEYWORD + 1;
        private static final int AND = KEYWORD + 2;
        private static final int NOT = KEYWORD + 3;
        private static final int LAW_WORD = KEYWORD + 4;
        private static final int LAW_VALUES = KEYWORD + 5;
        private static final int RULE_TALK = KEYWORD + 4;
        private static final int RULE_HUSH = KEYWORD + 6;
        private static final int RULE_VALUES = KEYWORD + 7;

        int fault;
        int faultPlace = NONE;
        private boolean isLaw;
        private int lines;
        private int length;
        private final int[] code = new int[MAX_TAPE];
        private final int[] start = new int[MAX_LINES + 1];
        private final int[] deed = new int[MAX_LINES];
        private final int[] kinds = new int[MAX_TAPE + 1];
        private final int[] places = new int[MAX_TAPE + 1];
        private final int[] numbers = new int[MAX_TAPE + 1];
        private int tokens;
        private int at;

        void forget() {
            fault = 0;
            faultPlace = NONE;
        }

        /** Null with a FAULT. */
        Text read(Tape tape, boolean law) {
            forget();
            isLaw = law;
            lines = 0;
            length = 0;
            findTokens(tape);
            at = 0;
            for (int i = 0; i < MAX_TAPE && fault == 0 && kinds[at] != THE_END; i++) {
                readLine();
            }
            if (fault != 0) {
                return null;
            }
            return new Text(lines, Arrays.copyOf(start, lines + 1), Arrays.copyOf(deed, lines),
                    Arrays.copyOf(code, length));
        }

        private void findTokens(Tape tape) {
            tokens = 0;
            int next = 0;
            for (int i = 0; i < MAX_TAPE && next < tape.length; i++) {
                next = findToken(tape, next);
            }
            putToken(THE_END, tape.length, 0);
        }

        /** Puts the token that stands there, if one does: where the next one may. */
        private int findToken(Tape tape, int from) {
            int c = tape.bytes[from];
            if (c == ' ' || c == '\n') {
                return from + 1;
            }
            if (isLetter(c)) {
                int to = endOfRun(tape, from, true);
                putToken(keyword(tape, from, to), from, 0);
                return to;
            }
            if (isDigit(c)) {
                int to = endOfRun(tape, from, false);
                putToken(to - from <= 4 ? NUMBER : NO_TOKEN, from, numberOf(tape, from, to));
                return to;
            }
            putToken(isSign(c) ? c : NO_TOKEN, from, 0);
            return from + 1;
        }

        private void putToken(int kind, int place, int number) {
            if (tokens <= MAX_TAPE) {
                kinds[tokens] = kind;
                places[tokens] = place;
                numbers[tokens] = number;
                tokens++;
            }
        }

        private static boolean isLetter(int c) {
            return c >= 'a' && c <= 'z' || c >= 'A' && c <= 'Z';
        }

        private static boolean isDigit(int c) {
            return c >= '0' && c <= '9';
        }

        private static boolean isSign(int c) {
            return c == ';' || c == '+' || c == '-' || c == '*' || c == '/'
                    || c == '(' || c == ')' || c == '<' || c == '=' || c == '>';
        }

        private static int endOfRun(Tape tape, int from, boolean letters) {
            int to = from;
            for (int i = from; i < tape.length; i++) {
                if (letters ? !isLetter(tape.bytes[i]) : !isDigit(tape.bytes[i])) {
                    break;
                }
                to = i + 1;
            }
            return to;
        }

        private static int numberOf(Tape tape, int from, int to) {
            int number = 0;
            for (int i = from; i < to; i++) {
                number = number * 10 + tape.bytes[i] - '0';
            }
            return number;
        }

        private int keyword(Tape tape, int from, int to) {
            String words = isLaw ? LAW_WORDS : RULE_WORDS;
            int kind = KEYWORD;
            int next = from;
            boolean same = true;
            for (int i = 0; i <= words.length(); i++) {
                char c = i < words.length() ? words.charAt(i) : ' ';
                if (c != ' ') {
                    same = same && next < to && tape.bytes[next] == c;
                    next++;
                } else if (same && next == to) {
                    return kind;
                } else {
                    kind++;
                    next = from;
                    same = true;
                }
            }
            return NO_TOKEN;
        }

        private void emit(int op, int operand) {
            if (length < code.length) {
                code[length] = operand << OP_BITS | op;
                length++;
            }
        }

        private void closeLine(int newDeed) {
            if (lines < MAX_LINES) {
                deed[lines] = newDeed;
                lines++;
                start[lines] = length;
            }
        }

        private void fail(int what) {
            if (fault == 0) {
                fault = what;
                faultPlace = places[at];
            }
        }

        private void step() {
            if (at < tokens - 1) {
                at++;
            }
        }

        private boolean take(int kind) {
            if (fault != 0 || kinds[at] != kind) {
                fail(CANNOT_STAND);
                return false;
            }
            step();
            return true;
        }

        private void readLine() {
            int head = kinds[at];
            if (isLaw ? head != LAW_WORD : head < RULE_TALK || head > RULE_HUSH) {
                fail(CANNOT_STAND);
                return;
            }
            if (lines >= MAX_LINES) {
                fail(TOO_MANY);
                return;
            }
            step();
            int deed = 0;
            if (!isLaw && head != RULE_HUSH) {
                deed = readLoud() + (head == RULE_TALK ? DEED_TALK : DEED_WORK);
            }
            if ((isLaw || kinds[at] == WHEN) && take(WHEN)) {
                anyOf(0);
            }
            if (take(';')) {
                closeLine(deed);
            }
        }

        private int readLoud() {
            int loud = numbers[at];
            if (kinds[at] == NUMBER && loud > MAX_LOUD) {
                fail(BAD_NUMBER);
            }
            take(NUMBER);
            return loud;
        }

        /** B: an 'or' waits till the 'and's behind it are done, as they bind more closely. */
        private void anyOf(int open) {
            condition(open);
            boolean waits = false;
            for (int i = 0; i < MAX_TAPE && fault == 0 && (kinds[at] == OR || kinds[at] == AND); i++) {
                boolean and = kinds[at] == AND;
                if (!and && waits) {
                    emit(OP_OR, 0);
                }
                waits = waits || !and;
                step();
                condition(open);
                if (and) {
                    emit(OP_AND, 0);
                }
            }
            if (waits) {
                emit(OP_OR, 0);
            }
        }

        /** C. */
        private void condition(int open) {
            int head = kinds[at];
            if (head == NOT || head == '(') {
                if (open >= MAX_OPEN) {
                    fail(TOO_MANY);
                    return;
                }
                step();
                if (head == NOT) {
                    condition(open + 1);
                    emit(OP_NOT, 0);
                } else {
                    anyOf(open + 1);
                    take(')');
                }
                return;
            }
            sum();
            int compare = kinds[at];
            if (compare == '<' || compare == '=' || compare == '>') {
                step();
                sum();
                emit(compare == '<' ? OP_LESS : compare == '=' ? OP_SAME : OP_MORE, 0);
            } else {
                fail(CANNOT_STAND);
            }
        }

        /** E: a '+' or '-' waits till the products behind it are done. */
        private void sum() {
            unit();
            int waits = NONE;
            for (int i = 0; i < MAX_TAPE && fault == 0 && isReckoning(kinds[at]); i++) {
                int sign = kinds[at];
                step();
                if (sign == '/') {
                    divisor();
                } else if (sign == '*') {
                    unit();
                    emit(OP_TIMES, 0);
                } else {
                    if (waits != NONE) {
                        emit(waits, 0);
                    }
                    waits = sign == '+' ? OP_PLUS : OP_MINUS;
                    unit();
                }
            }
            if (waits != NONE) {
                emit(waits, 0);
            }
        }

        private static boolean isReckoning(int kind) {
            return kind == '+' || kind == '-' || kind == '*' || kind == '/';
        }

        private void divisor() {
            if (kinds[at] != NUMBER) {
                fail(CANNOT_STAND);
            } else if (numbers[at] == 0) {
                fail(BAD_NUMBER);
            } else {
                emit(OP_PART, numbers[at]);
                step();
            }
        }

        private void unit() {
            int kind = kinds[at];
            int firstValue = isLaw ? LAW_VALUES : RULE_VALUES;
            if (kind == NUMBER) {
                emit(OP_NUMBER, numbers[at]);
                step();
            } else if (kind >= firstValue) {
                emit(OP_VALUE, kind - firstValue);
                step();
            } else {
                fail(CANNOT_STAND);
            }
        }
    }

    /** All that THE IMAGE holds, and how it goes on. */
    private static final class World {
        final People people = new People();
        final Debts debts = new Debts();
        final Town town = new Town();
        final Time time = new Time();
        final Book book;
        final Bargains bargains = new Bargains();
        final Text[] texts = new Text[LAWS + RULES];
        private final int[] values = new int[8];
        private final int[] stack = new int[Text.MAX_STACK];
        private final int[] chosen = new int[MAX_PEOPLE];

        World(int bookLines, Text empty) {
            book = new Book(bookLines);
            for (int i = 0; i < texts.length; i++) {
                texts[i] = empty;
            }
        }

        void copyFrom(World other) {
            people.copyFrom(other.people);
            debts.copyFrom(other.debts);
            town.copyFrom(other.town);
            time.copyFrom(other.time);
            book.copyFrom(other.book);
            bargains.copyFrom(other.bargains);
            for (int i = 0; i < texts.length; i++) {
                texts[i] = other.texts[i];
            }
        }

        void change(int what, int v) {
            switch (what) {
                case 1: town.ear = v; break;
                case 2: town.falsely = v; break;
                case 3: town.order = v; break;
                case 4: time.feasts = v; break;
                case 5: town.law = v; break;
                case 6: time.day = v; break;
                case 7: time.quarter = v; break;
                default: break;
            }
        }

        boolean isWord(int law, int sort, int loud, int hour, boolean child, boolean feast) {
            if (!isLaw(law)) {
                return false;
            }
            values[0] = loud;
            values[1] = sort;
            values[2] = hour;
            values[3] = isNightIn(hour) ? 1 : 0;
            values[4] = feast ? 1 : 0;
            values[5] = child ? 1 : 0;
            return texts[law].firstLine(values, stack) != NONE;
        }

        /** What a grown one does by his RULE now; debts.tally() must be true. */
        int deedOf(int who) {
            int rule = people.rule[who];
            if (rule < 0 || rule >= RULES) {
                return 0;
            }
            values[0] = time.hour();
            values[1] = time.quarter % HOUR_QUARTERS;
            values[2] = time.day;
            values[3] = time.isNight() ? 1 : 0;
            values[4] = time.isFeast() ? 1 : 0;
            values[5] = debts.owes[who];
            values[6] = debts.owed[who];
            values[7] = people.othersWith(who);
            Text text = texts[LAWS + rule];
            return text.deedOf(text.firstLine(values, stack));
        }

        /** A QUARTER goes by. */
        void pass() {
            if (!time.isNight()) {
                debts.tally();
            }
            for (int i = 0; i < people.count; i++) {
                makeNoise(i);
                judgeNoise(i);
            }
            if (people.has(town.ringer) && !time.isFeast()) {
                ring(town.ringer);
            }
            time.goOn();
        }

        private void makeNoise(int who) {
            people.hush(who);
            int sort = people.sort[who];
            if (sort == CHILD) {
                if (time.draw(THOUSAND) < people.whispers[who]) {
                    putNoise(who, CRY, people.loud[who]);
                }
            } else if (sort == GROWN && time.isNight()) {
                if (time.draw(THOUSAND) < people.whispers[who]) {
                    putNoise(who, WHISPER, people.loud[who] / 2);
                }
            } else if (sort == GROWN) {
                int deed = deedOf(who);
                if (deed >= DEED_WORK) {
                    putNoise(who, WORK, deed - DEED_WORK);
                } else if (deed >= DEED_TALK) {
                    putNoise(who, TALK, deed - DEED_TALK);
                }
            }
        }

        private void putNoise(int who, int sort, int loud) {
            people.noiseSort[who] = sort;
            people.noiseLoud[who] = loud;
        }

        private void judgeNoise(int who) {
            int sort = people.noiseSort[who];
            if (sort == NONE) {
                return;
            }
            boolean child = people.sort[who] == CHILD;
            boolean word = isWord(town.law, sort, people.noiseLoud[who], time.hour(), child, time.isFeast());
            people.noiseWord[who] = word ? 1 : 0;
        }

        private void ring(int ringer) {
            if (people.noiseWord[ringer] == 1) {
                book.spoke++;
                book.write(time, LINE_SPOKE, ringer, NONE);
                return;
            }
            chooseDebts();
            for (int i = 0; i < people.count; i++) {
                if (chosen[i] != NONE) {
                    keepQuiet(i, chosen[i]);
                }
            }
        }

        private void chooseDebts() {
            Arrays.fill(chosen, NONE);
            for (int d = 0; d < debts.count; d++) {
                int worker = debts.workerOf(d);
                if (debts.left[d] > 0 && people.has(worker)) {
                    int other = chosen[worker];
                    if (other == NONE || debts.goesAhead(d, other, town.order)) {
                        chosen[worker] = d;
                    }
                }
            }
        }

        private void keepQuiet(int worker, int d) {
            if (isWordHeardOf(worker)) {
                beginAgain(worker, d, LINE_WORD);
            } else if (town.falsely > 0 && time.draw(THOUSAND) < town.falsely) {
                book.falseStrikes++;
                beginAgain(worker, d, LINE_FALSE);
            } else {
                payQuarter(worker, d);
            }
        }

        private boolean isWordHeardOf(int worker) {
            boolean heard = isHeard(worker);
            for (int i = 0; i < people.count && !heard; i++) {
                heard = people.parent[i] == worker && isHeard(i);
            }
            return heard;
        }

        private boolean isHeard(int who) {
            if (people.noiseWord[who] != 1) {
                return false;
            }
            int wall = town.wallBetween(people.place[who], town.placeAt(time.hour()));
            return people.noiseLoud[who] - wall >= town.ear;
        }

        private void beginAgain(int worker, int d, int why) {
            if (debts.part[d] > 0) {
                book.again++;
                book.write(time, why, worker, d);
            }
            debts.part[d] = 0;
        }

        private void payQuarter(int worker, int d) {
            debts.part[d]++;
            if (debts.part[d] < HOUR_QUARTERS) {
                return;
            }
            debts.part[d] = 0;
            debts.left[d]--;
            debts.paid[d]++;
            book.paid++;
            book.write(time, LINE_PAID, worker, d);
            if (debts.left[d] == 0) {
                book.write(time, LINE_DONE, worker, d);
            }
        }

        /** How many QUARTERS till all DEBTS are DONE; NONE if they are not in 60 DAYS. */
        int tillQuiet() {
            int paidThen = book.paid + debts.allHours();
            if (paidThen > book.paid && (town.ringer == NONE || time.feasts == 1)) {
                // No QUARTER ever counts then, and what is drawn in thought does not stay.
                return NONE;
            }
            for (int i = 0; i < QUIET_QUARTERS; i++) {
                if (book.paid == paidThen) {
                    return i;
                }
                pass();
            }
            return book.paid == paidThen ? QUIET_QUARTERS : NONE;
        }

        /** Those whose WORD can have come there just so loud. */
        int byWhom(int place, boolean feast, int hour, int loud) {
            int set = 0;
            for (int i = 0; i < people.count; i++) {
                int made = loud + town.wallBetween(people.place[i], place);
                if (canMakeWord(i, made, hour, feast)) {
                    set |= 1 << i;
                }
            }
            return set;
        }

        private boolean canMakeWord(int who, int made, int hour, boolean feast) {
            int sort = people.sort[who];
            if (sort == CHILD) {
                return people.whispers[who] > 0 && people.loud[who] == made
                        && isWord(town.law, CRY, made, hour, true, feast);
            }
            if (sort != GROWN) {
                return false;
            }
            if (isNightIn(hour)) {
                return people.whispers[who] > 0 && people.loud[who] / 2 == made
                        && isWord(town.law, WHISPER, made, hour, false, feast);
            }
            int rule = people.rule[who];
            if (rule < 0 || rule >= RULES) {
                return false;
            }
            Text text = texts[LAWS + rule];
            boolean can = false;
            for (int i = 0; i < text.lines && !can; i++) {
                boolean talks = text.deedOf(i) == made + DEED_TALK && made <= MAX_LOUD;
                boolean works = text.deedOf(i) == made + DEED_WORK;
                can = talks && isWord(town.law, TALK, made, hour, false, feast)
                        || works && isWord(town.law, WORK, made, hour, false, feast);
            }
            return can;
        }
    }
}
