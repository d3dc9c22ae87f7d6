/** Promises 1 to 6 and 27: a new object, state, one, tell, wall, set, person. */
public final class PeopleTest {
    private static final Check check = new Check("PeopleTest");

    public static void main(String[] args) {
        newObject();
        state();
        one();
        tell();
        parent();
        wall();
        set();
        ranges();
        person();
        check.end();
    }

    private static void newObject() {
        check.due("NONE", SilenceForMoney.NONE, -1);
        SilenceForMoney x = new SilenceForMoney();
        for (int what = 0; what <= 12; what++) {
            check.due("new look " + what, x.look(what), 0);
        }
        check.due("new person", x.person(0, 0), -2);
        check.due("new of", x.of(0, 0), -2);
        check.due("new book", x.book(0, 0), -1);
        check.due("new fault", x.fault(0), 0);
        check.due("new fault place", x.fault(1), -1);
        check.due("new undo", x.undo(), false);
        check.due("new image", x.image(false), false);
        check.due("new word", x.word(0, 0, 99, 12, false, false), 0);
        check.due("new quarters", x.quarters(1), 0);
        check.due("new whom", x.whom(0, 0, 12, 0), 0);
        check.due("new soonest", x.soonest(0) + x.soonest(1) + x.soonest(2), 0);
        check.due("new quiet", x.quiet(8, 0) + x.quiet(8, 1) + x.quiet(8, 2), 0);
    }

    private static void state() {
        SilenceForMoney x = new SilenceForMoney();
        check.due("state first", x.state(Integer.MIN_VALUE), 0);
        check.due("state second", x.state(-1), Integer.MIN_VALUE);
        check.due("state looked at", x.look(12), -1);
        x.one(1, 0, 1, 0, 4);
        x.quarters(1);
        check.due("state drawn once", x.look(12), -1664525 + 1013904223);
    }

    private static void one() {
        SilenceForMoney x = new SilenceForMoney();
        check.due("sort -1", x.one(-1, 0, 0, 0, 4), -1);
        check.due("sort 3", x.one(3, 0, 0, 0, 4), -1);
        check.due("place -1", x.one(0, -1, 0, 0, 4), -1);
        check.due("place 6", x.one(0, 6, 0, 0, 4), -1);
        check.due("loud -1", x.one(0, 0, -1, 0, 4), -1);
        check.due("loud 100", x.one(0, 0, 100, 0, 4), -1);
        check.due("whispers -1", x.one(0, 0, 0, -1, 4), -1);
        check.due("whispers 1001", x.one(0, 0, 0, 1001, 4), -1);
        check.due("rule -1", x.one(0, 0, 0, 0, -1), -1);
        check.due("rule 5", x.one(0, 0, 0, 0, 5), -1);
        check.due("nobody yet", x.look(0), 0);
        for (int i = 0; i < 12; i++) {
            check.due("one " + i, x.one(i % 3, i % 6, 99, 1000, i % 5), i);
        }
        check.due("the thirteenth", x.one(0, 0, 0, 0, 0), -1);
        check.due("twelve", x.look(0), 12);
        check.due("sort of 11", x.person(11, 0), 2);
        check.due("place of 11", x.person(11, 1), 5);
        check.due("rule of 11", x.person(11, 4), 1);
        check.due("coin of 11", x.person(11, 5), 0);
        check.due("parent of 11", x.person(11, 6), -1);
    }

    private static void tell() {
        SilenceForMoney x = new SilenceForMoney();
        check.due("tell nobody", x.tell(0, 0, 0), false);
        x.one(0, 0, 0, 0, 4);
        check.due("tell -1", x.tell(-1, 0, 0), false);
        check.due("tell another", x.tell(1, 0, 0), false);
        check.due("what -1", x.tell(0, -1, 0), false);
        check.due("what 6", x.tell(0, 6, 0), false);
        int[] most = {5, 99, 1000, 4, 99999};
        for (int what = 0; what < most.length; what++) {
            check.due("tell most " + what, x.tell(0, what, most[what]), true);
            check.due("told " + what, x.person(0, what + 1), most[what]);
            check.due("tell above " + what, x.tell(0, what, most[what] + 1), false);
            check.due("tell below " + what, x.tell(0, what, -1), false);
            check.due("still " + what, x.person(0, what + 1), most[what]);
            check.due("tell least " + what, x.tell(0, what, 0), true);
            check.due("told least " + what, x.person(0, what + 1), 0);
        }
    }

    private static void parent() {
        SilenceForMoney x = new SilenceForMoney();
        x.one(0, 0, 0, 0, 4);
        x.one(1, 0, 0, 0, 4);
        x.one(2, 0, 0, 0, 4);
        x.one(1, 0, 0, 0, 4);
        check.due("a grown one has none", x.tell(0, 5, 2), false);
        check.due("not even none", x.tell(0, 5, -1), false);
        check.due("a mute has none", x.tell(2, 5, 0), false);
        check.due("itself", x.tell(1, 5, 1), false);
        check.due("another child", x.tell(1, 5, 3), false);
        check.due("nobody there", x.tell(1, 5, 4), false);
        check.due("below none", x.tell(1, 5, -2), false);
        check.due("a mute", x.tell(1, 5, 2), true);
        check.due("is it", x.person(1, 6), 2);
        check.due("none", x.tell(1, 5, -1), true);
        check.due("none it is", x.person(1, 6), -1);
        check.due("a grown one", x.tell(1, 5, 0), true);
        check.due("is it too", x.person(1, 6), 0);
    }

    private static void wall() {
        SilenceForMoney x = new SilenceForMoney();
        check.due("one place", x.wall(2, 2, 5), false);
        check.due("place -1", x.wall(-1, 2, 5), false);
        check.due("place 6", x.wall(2, 6, 5), false);
        check.due("wall -1", x.wall(2, 3, -1), false);
        check.due("wall 100", x.wall(2, 3, 100), false);
        check.due("law", Check.text(x, 0, "word when 1=1;"), 1);
        x.one(1, 2, 40, 1, 4);
        check.due("twenty at first", x.whom(3, 1, 0, 20), 1);
        check.due("none within", x.whom(2, 1, 0, 40), 1);
        check.due("wall 0", x.wall(2, 3, 0), true);
        check.due("hears all", x.whom(3, 1, 0, 40), 1);
        check.due("wall the other way", x.wall(3, 2, 39), true);
        check.due("hears one", x.whom(3, 1, 0, 1), 1);
        check.due("wall 99", x.wall(2, 3, 99), true);
        check.due("hears nothing", x.whom(3, 1, 0, 0), 0);
    }

    private static void set() {
        SilenceForMoney x = new SilenceForMoney();
        check.due("ringer nobody there", x.set(0, 0), false);
        check.due("ringer none", x.set(0, -1), true);
        check.due("ringer below", x.set(0, -2), false);
        x.one(0, 0, 0, 0, 4);
        check.due("ringer 0", x.set(0, 0), true);
        check.due("ringer 1", x.set(0, 1), false);
        check.due("day", x.set(6, 9999), true);
        check.due("day told", x.look(3), 9999);
        check.due("quarter", x.set(7, 95), true);
        check.due("quarter told", x.look(4), 95);
        check.due("a day too far", x.quarters(1), -1);
    }

    private static void ranges() {
        SilenceForMoney x = new SilenceForMoney();
        int[] most = {0, 99, 1000, 2, 99, 1, 9999, 95};
        for (int what = 1; what <= 7; what++) {
            check.due("set most " + what, x.set(what, most[what]), true);
            check.due("set above " + what, x.set(what, most[what] + 1), false);
            check.due("set below " + what, x.set(what, -1), false);
            check.due("set least " + what, x.set(what, 0), true);
        }
        for (int what = -2; what <= 40; what++) {
            boolean round = what >= 10 && what <= 33;
            boolean other = what >= 1 && what <= 7;
            check.due("set 0 of " + what, x.set(what, 0), round || other);
            if (round) {
                check.due("set 5 of " + what, x.set(what, 5), true);
                check.due("set 6 of " + what, x.set(what, 6), false);
                check.due("set -1 of " + what, x.set(what, -1), false);
            }
        }
    }

    private static void person() {
        SilenceForMoney x = new SilenceForMoney();
        x.one(1, 4, 31, 700, 2);
        x.one(0, 4, 0, 0, 4);
        x.one(0, 4, 0, 0, 4);
        x.tell(0, 4, 77);
        x.tell(0, 5, 1);
        x.debt(0, 1, 5);
        x.debt(0, 2, 7);
        x.debt(2, 0, 11);
        x.sell(0, 2, 7);
        long[] want = {1, 4, 31, 700, 2, 70, 1, 12, 11, 7};
        for (int what = 0; what < want.length; what++) {
            check.due("person what " + what, x.person(0, what), want[what]);
        }
        check.due("worker for two", x.person(2, 9), 16);
        check.due("owes his own", x.person(2, 7), 11);
        check.due("coin came", x.person(2, 5), 7);
        check.due("what -1", x.person(0, -1), -2);
        check.due("what 10", x.person(0, 10), -2);
        check.due("nobody", x.person(3, 0), -2);
        check.due("below", x.person(-1, 0), -2);
    }
}
