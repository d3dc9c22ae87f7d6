/** All that can be asked of an object, as one text, so that two objects can be held beside one another. */
final class Portrait {
    private final SilenceForMoney x;
    private final StringBuilder s = new StringBuilder();
    private int calls;

    private Portrait(SilenceForMoney x) {
        this.x = x;
    }

    /** Without changing anything. */
    static String of(SilenceForMoney x) {
        Portrait p = new Portrait(x);
        p.counts();
        p.people();
        p.debts();
        p.lines();
        p.reckoned();
        return p.s.toString();
    }

    /** With what only shows when it is used up: the TAPE, THE IMAGE, how things go on, the BARGAINS. */
    static String whole(SilenceForMoney x) {
        Portrait p = new Portrait(x);
        p.counts();
        p.people();
        p.debts();
        p.lines();
        p.reckoned();
        p.tape();
        p.goesOn();
        p.bargains();
        p.image();
        if (p.calls > 400) {
            throw new IllegalStateException("a portrait of " + p.calls + " calls is too long");
        }
        return p.s.toString();
    }

    private void put(String name, long answer) {
        calls++;
        s.append(name).append('=').append(answer).append('\n');
    }

    private void put(String name, boolean answer) {
        put(name, answer ? 1 : 0);
    }

    private void counts() {
        for (int what = 0; what <= 12; what++) {
            put("look " + what, x.look(what));
        }
        put("fault 0", x.fault(0));
        put("fault 1", x.fault(1));
    }

    private void people() {
        int people = x.look(0);
        for (int who = 0; who < people; who++) {
            for (int what = 0; what <= 6; what++) {
                put("person " + who + " " + what, x.person(who, what));
            }
            for (int what = 0; what <= 2; what++) {
                put("noise " + who + " " + what, x.noise(who, what));
            }
            put("does " + who, x.does(who));
        }
    }

    private void debts() {
        int debts = Math.min(x.look(1), 8);
        for (int d = 0; d < debts; d++) {
            for (int what = 0; what <= 7; what++) {
                put("of " + d + " " + what, x.of(d, what));
            }
        }
    }

    private void lines() {
        int lines = Math.min(x.look(2), 10);
        for (int i = 0; i < lines; i++) {
            for (int what = 0; what <= 4; what++) {
                put("book " + i + " " + what, x.book(i, what));
            }
        }
    }

    private void reckoned() {
        for (int law = 0; law < 2; law++) {
            put("word of " + law, x.word(law, 0, 50, 12, false, false));
            put("whisper of " + law, x.word(law, 1, 20, 23, false, true));
            put("cry of " + law, x.word(law, 2, 30, 3, true, false));
            for (int what = 0; what < 4; what++) {
                put("thought of " + law + " " + what, x.thought(3, law, what));
            }
        }
        for (int what = 0; what < 3; what++) {
            put("soonest " + what, x.soonest(what));
            put("quiet " + what, x.quiet(2, what));
        }
        put("whom by day", x.whom(0, 1, 12, 30));
        put("whom by a wall", x.whom(1, 2, 3, 10));
    }

    private void tape() {
        put("feed", x.feed(0x20202020, 0x20202020, 0x20202020, 0x20202020, 0x20202020));
        put("text", x.text(5));
        put("its fault", x.fault(0));
        put("its place", x.fault(1));
        put("does by it", x.does(0));
    }

    private void goesOn() {
        put("quarters", x.quarters(9));
        put("state behind", x.look(12));
        put("lines behind", x.look(2));
        put("quarter behind", x.look(4));
        for (int d = 0; d < 3; d++) {
            put("hours of " + d + " behind", x.of(d, 2));
            put("part of " + d + " behind", x.of(d, 3));
        }
    }

    private void bargains() {
        for (int i = 0; i < 4; i++) {
            put("undo " + i, x.undo());
            put("coin behind undo " + i, x.person(0, 5));
            put("creditor behind undo " + i, x.of(0, 1));
            put("hours behind undo " + i, x.look(10));
        }
    }

    private void image() {
        put("image", x.image(false));
        put("people of it", x.look(0));
        put("hours of it", x.look(10));
        put("state of it", x.look(12));
    }
}
