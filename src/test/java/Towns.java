/** Objects in which something of everything has been told and done. */
final class Towns {
    private Towns() {
    }

    /** Three grown ones, a child 2, a mute 3, five debts, bargains, an image, a fault and a tape. */
    static SilenceForMoney busy() {
        SilenceForMoney x = new SilenceForMoney();
        x.state(4711);
        x.one(0, 0, 61, 300, 0);
        x.one(0, 1, 40, 0, 4);
        x.one(1, 0, 30, 400, 4);
        x.one(2, 2, 99, 1000, 0);
        x.one(0, 2, 25, 100, 1);
        for (int who = 0; who < 5; who++) {
            x.tell(who, 4, 100 + who);
        }
        x.tell(2, 5, 0);
        Check.text(x, 0, "word when loud>9;");
        Check.text(x, 1, "word when sort=1 or child=1;");
        Check.text(x, 2, "talk 30 when hour=12;work 40 when owes>3;");
        Check.text(x, 3, "talk 9 when with>0;");
        x.set(0, 1);
        x.set(2, 50);
        x.set(3, 1);
        x.set(4, 7);
        x.set(6, 8);
        x.set(7, 20);
        x.set(16, 3);
        x.wall(0, 2, 15);
        x.debt(0, 1, 6);
        x.debt(4, 0, 5);
        x.debt(2, 3, 3);
        x.debt(3, 4, 2);
        x.helpers(0, 26);
        x.quarters(13);
        x.image(true);
        x.state(815);
        x.lend(1, 3, 5);
        x.split(0, 2);
        x.sell(1, 1, 7);
        x.quarters(2);
        Check.text(x, 4, "talk 100;");
        Check.tape(x, "talk 7;hush;");
        return x;
    }

    /** So many grown ones in one place, each with 100 coins; the first one rings from noon on. */
    static SilenceForMoney grown(int people) {
        SilenceForMoney x = new SilenceForMoney();
        for (int who = 0; who < people; who++) {
            x.one(0, 0, 40, 0, 4);
            x.tell(who, 4, 100);
        }
        x.set(0, 0);
        x.set(7, 48);
        return x;
    }

    /** Twelve of all sorts. */
    static SilenceForMoney crowd() {
        SilenceForMoney x = new SilenceForMoney();
        for (int who = 0; who < 12; who++) {
            x.one(who % 3, who % 6, 50, 300, who % 5);
        }
        return x;
    }

    /** Forty debts of three hours among three mutes, none of whom rings. */
    static SilenceForMoney indebted() {
        SilenceForMoney x = new SilenceForMoney();
        for (int who = 0; who < 3; who++) {
            x.one(2, who, 0, 0, 4);
        }
        for (int d = 0; d < 40; d++) {
            x.debt(d % 3, (d + 1) % 3, 3);
        }
        return x;
    }
}
