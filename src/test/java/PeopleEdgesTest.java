/** The boundaries that promises 1 to 6 and 27 and the document's first Terms name, on both sides of each. */
public final class PeopleEdgesTest {
    private static final Check check = new Check("PeopleEdgesTest");
    private static final Twins busy = new Twins(check, Towns::busy);
    private static final Twins crowd = new Twins(check, Towns::crowd);
    private static final int LEAST = Integer.MIN_VALUE;
    private static final int MOST = Integer.MAX_VALUE;

    public static void main(String[] args) {
        allIsAsAtFirst();
        stateTakesAnyInt();
        drawsWrapAndAreWithoutSign();
        oneWithinItsRanges();
        oneBeyondItsRanges();
        twelveAndNoMore();
        tellWithinItsRanges();
        tellBeyondItsRanges();
        parentOfAChildAlone();
        wallsAtTheirEdges();
        wallsThatCannotBe();
        ringerIsOneOrNobody();
        setWithinItsRanges();
        setBeyondItsRanges();
        setOfNoSuchWhat();
        personThatCannotBe();
        check.end();
    }

    /** "At first": every value that the Terms tell for a new object, by what it does. */
    private static void allIsAsAtFirst() {
        SilenceForMoney x = new SilenceForMoney();
        check.due("STATE is 0 at first", x.state(0), 0);
        check.due("DAY and QUARTER are 0 at first", x.look(3) + x.look(4), 0);
        x.one(1, 0, 24, 1000, 4);
        x.one(0, 1, 0, 0, 4);
        check.due("no PARENT at first", x.person(0, 6), -1);
        check.due("COIN is 0 at first", x.person(0, 5), 0);
        check.due("LAW 0 is empty at first", x.word(0, 2, 24, 0, true, false), 0);
        check.due("LAW 1 is empty at first", x.word(1, 2, 24, 0, true, false), 0);
        Check.text(x, 0, "word when 1=1;");
        check.due("LAW 0 is in force at first, WALLS are 20", x.whom(5, 1, 0, 4), 1);
        x.debt(0, 1, 2);
        check.due("PART, PROXY, HELPERS at first", x.of(0, 3) * 100 + x.of(0, 4) * 10 + x.of(0, 5), -10);
        x.quarters(4);
        check.due("nobody rings at first", x.of(0, 3) + x.of(0, 7) + x.look(2), 0);
        x.set(0, 1);
        x.tell(0, 2, 0);
        int state = x.look(12);
        x.quarters(1);
        check.due("no DAY is a FEAST at first", x.of(0, 3), 1);
        Check.Draws draws = new Check.Draws(state);
        draws.of(1000);
        draws.of(1000);
        check.due("FALSE is 0 at first: no draw but of both", x.look(12), draws.state);
        earAndRoundAtFirst();
        orderAndRulesAtFirst();
    }

    private static void earAndRoundAtFirst() {
        for (int hour = 0; hour < 24; hour++) {
            for (int loud = 4; loud <= 5; loud++) {
                SilenceForMoney x = new SilenceForMoney();
                Check.text(x, 0, "word when 1=1;");
                x.one(1, 0, loud, 1000, 4);
                x.one(2, 0, 0, 0, 4);
                x.debt(0, 1, 2);
                x.set(0, 1);
                x.set(7, hour * 4);
                x.quarters(1);
                check.due("EAR is 5, the ROUND's PLACE 0 in " + hour + " for " + loud, x.of(0, 3), loud == 5 ? 0 : 1);
            }
            SilenceForMoney y = new SilenceForMoney();
            Check.text(y, 0, "word when 1=1;");
            y.one(1, 1, 24, 1000, 4);
            y.one(2, 0, 0, 0, 4);
            y.debt(0, 1, 2);
            y.set(0, 1);
            y.set(7, hour * 4);
            y.quarters(1);
            check.due("24 by a WALL of 20 is below 5 in " + hour, y.of(0, 3), 1);
        }
    }

    private static void orderAndRulesAtFirst() {
        SilenceForMoney x = Towns.grown(2);
        for (int rule = 0; rule < 4; rule++) {
            x.tell(0, 3, rule);
            check.due("RULE " + rule + " is empty at first", x.does(0), 0);
        }
        x.debt(0, 1, 2);
        x.debt(0, 1, 1);
        x.debt(0, 1, 3);
        x.quarters(1);
        check.due("ORDER is 0 at first", x.of(0, 3) * 100 + x.of(1, 3) * 10 + x.of(2, 3), 100);
    }

    private static void stateTakesAnyInt() {
        SilenceForMoney x = new SilenceForMoney();
        int[] states = {LEAST, -1, 0, 1, MOST};
        int was = 0;
        for (int state : states) {
            check.due("state tells what it was", x.state(state), was);
            check.due("state is told", x.look(12), state);
            was = state;
        }
    }

    /** "Ints, which wrap", "its highest 24 bits (without sign) modulo m". */
    private static void drawsWrapAndAreWithoutSign() {
        int[] states = {LEAST, LEAST + 1, -1, 0, 1, MOST - 1, MOST, 815, -815, 1289, 99999999};
        for (int state : states) {
            long next = (1664525L * state + 1013904223L) & 0xffffffffL;
            int drawn = (int) ((next >> 8) % 1000);
            for (int whispers = Math.max(0, drawn - 1); whispers <= drawn + 1; whispers++) {
                SilenceForMoney x = new SilenceForMoney();
                x.one(1, 0, 9, whispers, 4);
                x.state(state);
                x.quarters(1);
                check.due("STATE behind " + state, x.look(12), (int) next);
                check.due("a cry behind " + state + " below " + whispers, x.noise(0, 0), drawn < whispers ? 2 : -1);
            }
            SilenceForMoney never = new SilenceForMoney();
            never.one(1, 0, 9, 0, 4);
            never.one(1, 0, 9, 1000, 4);
            never.state(state);
            never.quarters(1);
            check.due("WHISPERS 0 never cries", never.noise(0, 0), -1);
            check.due("WHISPERS 1000 always cries", never.noise(1, 0), 2);
        }
    }

    private static void oneWithinItsRanges() {
        int[][] edges = {{0, 0, 0, 0, 0}, {2, 5, 99, 1000, 4}, {1, 5, 0, 1000, 3}, {0, 0, 99, 0, 4}};
        for (int[] e : edges) {
            busy.changes("one within", 5, x -> x.one(e[0], e[1], e[2], e[3], e[4]));
            SilenceForMoney x = new SilenceForMoney();
            check.due("the first is 0", x.one(e[0], e[1], e[2], e[3], e[4]), 0);
            for (int what = 0; what < 5; what++) {
                check.due("told " + what, x.person(0, what), e[what]);
            }
        }
    }

    /** "NONE if one can't be". */
    private static void oneBeyondItsRanges() {
        int[] above = {3, 6, 100, 1001, 5};
        for (int i = 0; i < 5; i++) {
            for (int v : new int[] {-1, above[i], LEAST, MOST}) {
                int[] a = {0, 0, 0, 0, 0};
                a[i] = v;
                busy.leaves("one with " + v + " as its " + i, -1, x -> x.one(a[0], a[1], a[2], a[3], a[4]));
            }
        }
    }

    /** "NONE if .. there are twelve". */
    private static void twelveAndNoMore() {
        SilenceForMoney x = new SilenceForMoney();
        for (int who = 0; who < 11; who++) {
            x.one(0, 0, 0, 0, 4);
        }
        check.due("the twelfth", x.one(1, 5, 9, 9, 3), 11);
        check.due("is told", x.person(11, 1), 5);
        check.due("and can be rung by", x.set(0, 11), true);
        check.due("the thirteenth", x.one(1, 5, 9, 9, 3), -1);
        check.due("is none", x.person(12, 0), -2);
        check.due("twelve", x.look(0), 12);
        crowd.leaves("one more than twelve", -1, y -> y.one(0, 0, 0, 0, 0));
    }

    private static void tellWithinItsRanges() {
        int[] most = {5, 99, 1000, 4, 99999};
        for (int what = 0; what < 5; what++) {
            for (int v : new int[] {0, 1, most[what] - 1, most[what]}) {
                SilenceForMoney x = Towns.busy();
                int w = what;
                check.due("tell " + what + " " + v, x.tell(4, w, v), true);
                check.due("told " + what, x.person(4, what + 1), v);
            }
        }
    }

    private static void tellBeyondItsRanges() {
        int[] above = {6, 100, 1001, 5, 100000};
        for (int what = 0; what < 5; what++) {
            int w = what;
            for (int v : new int[] {-1, above[what], LEAST, MOST}) {
                busy.refuses("tell " + what + " " + v, x -> x.tell(4, w, v));
            }
        }
        for (int who : new int[] {-1, 5, LEAST, MOST}) {
            for (int what = 0; what <= 5; what++) {
                int w = what;
                busy.refuses("tell of " + who + " what " + what, x -> x.tell(who, w, 0));
            }
        }
        for (int what : new int[] {-1, 6, LEAST, MOST}) {
            busy.refuses("tell what " + what, x -> x.tell(0, what, 0));
            busy.refuses("tell a child what " + what, x -> x.tell(2, what, 0));
        }
    }

    /** "PARENT (NONE: none; told for a child alone)": "another one, grown or mute". */
    private static void parentOfAChildAlone() {
        for (int who : new int[] {0, 1, 3, 4}) {
            for (int v = -1; v < 5; v++) {
                int parent = v;
                busy.refuses("PARENT " + v + " of " + who + ", no child", x -> x.tell(who, 5, parent));
            }
        }
        for (int v : new int[] {-2, 5, LEAST, MOST}) {
            busy.refuses("PARENT " + v + " that can't be", x -> x.tell(2, 5, v));
        }
        busy.refuses("a child is no PARENT of itself", x -> x.tell(2, 5, 2));
        Twins nursery = new Twins(check, PeopleEdgesTest::withAnotherChild);
        nursery.refuses("another child is no PARENT", x -> x.tell(2, 5, 5));
        nursery.refuses("nor this one of that", x -> x.tell(5, 5, 2));
        for (int v : new int[] {-1, 0, 1, 3, 4}) {
            SilenceForMoney x = Towns.busy();
            check.due("PARENT " + v, x.tell(2, 5, v), true);
            check.due("is " + v, x.person(2, 6), v);
        }
    }

    private static SilenceForMoney withAnotherChild() {
        SilenceForMoney x = Towns.busy();
        x.one(1, 0, 0, 0, 4);
        return x;
    }

    /** "WALLS between two unlike PLACES (either way) take 0 .. 99 .. of what is loud; 0 within a PLACE". */
    private static void wallsAtTheirEdges() {
        for (int a = 0; a < 6; a++) {
            for (int b = 0; b < 6; b++) {
                if (a == b) {
                    continue;
                }
                for (int v : new int[] {0, 1, 98, 99}) {
                    SilenceForMoney x = new SilenceForMoney();
                    Check.text(x, 0, "word when 1=1;");
                    x.one(1, a, 99, 1, 4);
                    x.one(1, b, 99, 1, 4);
                    check.due("WALL " + v + " from " + a + " to " + b, x.wall(a, b, v), true);
                    check.due("takes so much", x.whom(b, 0, 0, 99 - v), v == 0 ? 3 : 1);
                    check.due("either way", x.whom(a, 0, 0, 99 - v), v == 0 ? 3 : 2);
                    check.due("none within", x.whom(a, 0, 0, 99), v == 0 ? 3 : 1);
                    check.due("others stay 20", x.whom(other(a, b), 0, 0, 79), 3);
                }
            }
        }
    }

    private static int other(int a, int b) {
        int c = 0;
        while (c == a || c == b) {
            c++;
        }
        return c;
    }

    private static void wallsThatCannotBe() {
        for (int a = 0; a < 6; a++) {
            int p = a;
            busy.refuses("a WALL within " + a, x -> x.wall(p, p, 5));
        }
        for (int p : new int[] {-1, 6, LEAST, MOST}) {
            busy.refuses("a WALL from " + p, x -> x.wall(p, 0, 5));
            busy.refuses("a WALL to " + p, x -> x.wall(0, p, 5));
            busy.refuses("a WALL within " + p, x -> x.wall(p, p, 5));
        }
        for (int v : new int[] {-1, 100, LEAST, MOST}) {
            busy.refuses("a WALL of " + v, x -> x.wall(0, 1, v));
        }
    }

    /** "RINGER (NONE: nobody)". */
    private static void ringerIsOneOrNobody() {
        for (int v : new int[] {-2, 5, LEAST, MOST}) {
            busy.refuses("RINGER " + v, x -> x.set(0, v));
        }
        for (int v : new int[] {-1, 0, 2, 4}) {
            busy.changes("RINGER " + v, 1, x -> x.set(0, v) ? 1 : 0);
        }
        SilenceForMoney x = new SilenceForMoney();
        check.due("nobody of nobody", x.set(0, -1), true);
        check.due("one of nobody", x.set(0, 0), false);
    }

    /** Every value at its edges is told, and does what it is. */
    private static void setWithinItsRanges() {
        int[] most = {0, 99, 1000, 2, 99, 1, 9999, 95};
        for (int what = 1; what <= 7; what++) {
            for (int v : new int[] {0, 1, most[what] - 1, most[what]}) {
                check.due("set " + what + " " + v, Towns.busy().set(what, v), true);
            }
        }
        SilenceForMoney x = new SilenceForMoney();
        x.set(6, 9999);
        x.set(7, 95);
        check.due("DAY 9999", x.look(3), 9999);
        check.due("QUARTER 95", x.look(4), 95);
        x.set(6, 0);
        x.set(7, 0);
        check.due("DAY 0", x.look(3), 0);
        check.due("QUARTER 0", x.look(4), 0);
        for (int hour = 0; hour < 24; hour++) {
            for (int place = 0; place < 6; place++) {
                check.due("ROUND " + place + " in " + hour, hearsAt(hour, place), true);
            }
        }
    }

    /** Whether a child in a PLACE is heard in that HOUR alone in which the ROUND is there. */
    private static boolean hearsAt(int hour, int place) {
        SilenceForMoney x = new SilenceForMoney();
        Check.text(x, 0, "word when 1=1;");
        x.one(1, place, 5, 1000, 4);
        x.one(2, 0, 0, 0, 4);
        x.debt(0, 1, 9);
        x.set(0, 1);
        for (int h = 0; h < 24; h++) {
            x.set(10 + h, (place + 1) % 6);
        }
        boolean told = x.set(10 + hour, place);
        x.set(7, hour * 4);
        x.quarters(1);
        boolean heard = x.of(0, 3) == 0;
        x.set(7, (hour + 1) % 24 * 4);
        x.quarters(1);
        return told && heard && x.of(0, 3) == 1;
    }

    private static void setBeyondItsRanges() {
        int[] above = {0, 100, 1001, 3, 100, 2, 10000, 96};
        for (int what = 1; what <= 7; what++) {
            int w = what;
            for (int v : new int[] {-1, above[what], LEAST, MOST}) {
                busy.refuses("set " + what + " " + v, x -> x.set(w, v));
            }
        }
        for (int what = 10; what <= 33; what++) {
            int w = what;
            for (int v : new int[] {-1, 6, LEAST, MOST}) {
                busy.refuses("set " + what + " " + v, x -> x.set(w, v));
            }
        }
    }

    /** "Another what": between those that are told, below and above them. */
    private static void setOfNoSuchWhat() {
        for (int what : new int[] {-1, 8, 9, 34, 35, LEAST, MOST}) {
            for (int v : new int[] {-1, 0, 1}) {
                busy.refuses("set " + what + " " + v, x -> x.set(what, v));
            }
        }
    }

    /** "NONE - 1 if one can't be, or another what". */
    private static void personThatCannotBe() {
        for (int who : new int[] {-1, 5, LEAST, MOST}) {
            for (int what = 0; what <= 9; what++) {
                int w = what;
                check.due("person " + who + " " + what, Towns.busy().person(who, w), -2);
            }
            busy.leaves("person " + who, -2, x -> x.person(who, 0));
        }
        for (int what : new int[] {-1, 10, LEAST, MOST}) {
            busy.leaves("person what " + what, -2, x -> x.person(0, what));
        }
        SilenceForMoney x = Towns.busy();
        check.due("person's first what", x.person(3, 0), 2);
        check.due("person's last what", x.person(0, 9), 6);
        check.due("NONE for a PARENT", x.person(0, 6), -1);
        SilenceForMoney none = new SilenceForMoney();
        check.due("nobody yet", none.person(0, 0), -2);
    }
}
