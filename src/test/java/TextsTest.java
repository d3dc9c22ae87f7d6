import java.nio.charset.StandardCharsets;

/** Promises 10 to 15: feed, end, text, fault, does, word. */
public final class TextsTest {
    private static final Check check = new Check("TextsTest");

    public static void main(String[] args) {
        feed();
        end();
        text();
        soundTexts();
        cannotStand();
        badNumbers();
        tooMany();
        fault();
        lawValues();
        arithmetic();
        logic();
        word();
        does();
        ruleValues();
        check.end();
    }

    private static void feed() {
        SilenceForMoney x = new SilenceForMoney();
        for (int i = 1; i <= 20; i++) {
            check.due("feed " + i, x.feed(0x20202020, 0x20202020, 0x20202020, 0x20202020, 0x20202020), 20 * i);
        }
        check.due("the 21st", x.feed(1, 2, 3, 4, 5), -1);
        check.due("still 400", x.end(400), true);
        check.due("blanks alone are no lines", x.text(0), 0);
        Check.tape(x, "hush;");
        check.due("empty behind text()", x.feed(0, 0, 0, 0, 0), 25);
        x.end(381);
        for (int i = 0; i < 17; i++) {
            x.feed(0, 0, 0, 0, 0);
        }
        x.end(0);
        for (int i = 0; i < 19; i++) {
            x.feed(0x20202020, 0x20202020, 0x20202020, 0x20202020, 0x20202020);
        }
        x.end(379);
        check.due("399 may be", x.feed(0x20202020, 0x20202020, 0x20202020, 0x20202020, 0x20202020), 399);
        x.end(381);
        check.due("401 may not", x.feed(0x20202020, 0x20202020, 0x20202020, 0x20202020, 0x20202020), -1);
        check.due("and nothing came", x.end(382), false);
    }

    private static void end() {
        SilenceForMoney x = new SilenceForMoney();
        check.due("end 0 of none", x.end(0), true);
        check.due("end 1 of none", x.end(1), false);
        check.due("end -1", x.end(-1), false);
        Check.tape(x, "hush;hush;");
        check.due("end 11 of 10", x.end(11), false);
        check.due("end 10 of 10", x.end(10), true);
        check.due("end 5 of 10", x.end(5), true);
        check.due("one line is left", x.text(2), 1);
    }

    private static void text() {
        SilenceForMoney x = new SilenceForMoney();
        check.due("no text at all", x.text(0), 0);
        check.due("a law", Check.text(x, 1, "word when loud > 5; word when sort = 2;"), 2);
        check.due("a faulty law", Check.text(x, 1, "word when"), -1);
        check.due("stays as it was", x.word(1, 0, 6, 0, false, false), 1);
        check.due("the other is empty", x.word(0, 0, 6, 0, false, false), 0);
        check.due("the tape is empty then", x.end(1), false);
        check.due("no law -1", Check.text(x, -1, "hush;"), -1);
        check.due("tells 0", x.fault(0), 0);
        check.due("and no place", x.fault(1), -1);
        check.due("no rule 6", Check.text(x, 6, "hush;"), -1);
        check.due("the tape is empty then, too", x.end(1), false);
        check.due("an empty law", x.text(1), 0);
        check.due("has no words", x.word(1, 0, 6, 0, false, false), 0);
        for (int k = 2; k <= 5; k++) {
            check.due("rule " + k, Check.text(x, k, "talk 1;work 2;hush;"), 3);
        }
    }

    private static void soundTexts() {
        check.sound(0, "word when 1=1;", 1);
        check.sound(0, "\nword\nwhen\n1\n=\n1\n;\n", 1);
        check.sound(0, "word when(loud)=1;".replace("(loud)", " loud"), 1);
        check.sound(0, "word when(loud=1)and(sort=2)or not(hour=3);", 1);
        check.sound(0, "word when1=1;", 1);
        check.sound(0, "word when not not not not not not not not 1=1;", 1);
        check.sound(0, "word when ((((((((1=1))))))))and((((((((1=1))))))));", 1);
        check.sound(0, "word when not(not(not(not(1=1))));", 1);
        check.sound(0, "word when 0001/0001=9999;", 1);
        check.sound(1, "word when loud+sort-hour*night/7=feast*child;", 1);
        check.sound(2, "talk 0;talk 99;work 0;work 99;hush;hush when 1=1;", 6);
        check.sound(5, "talk99when hour+quarter+day+night+feast=owes+owed+with;", 1);
        check.sound(0, "word when 1=1" + "+1".repeat(193) + ";", 1);
        check.sound(0, "word when 1=2" + " or 1=1".repeat(55) + " ;", 1);
        check.sound(2, "hush;".repeat(16), 16);
        check.sound(0, "word when 1=1;".repeat(16), 16);
    }

    private static void cannotStand() {
        check.faulty(0, "word", 1, 4);
        check.faulty(0, "word  \n", 1, 7);
        check.faulty(0, "  x", 1, 2);
        check.faulty(0, ";", 1, 0);
        check.faulty(0, "Word when 1=1;", 1, 0);
        check.faulty(0, "words when 1=1;", 1, 0);
        check.faulty(0, "wordwhen 1=1;", 1, 0);
        check.faulty(0, "wor when 1=1;", 1, 0);
        check.faulty(0, "wordz when 1=1;", 1, 0);
        check.faulty(0, "wordZ when 1=1;", 1, 0);
        check.faulty(0, "wordA when 1=1;", 1, 0);
        check.faulty(0, "word[when 1=1;", 1, 4);
        check.faulty(0, "word{when 1=1;", 1, 4);
        check.faulty(0, "word`when 1=1;", 1, 4);
        check.faulty(0, "word@when 1=1;", 1, 4);
        check.faulty(0, ";".repeat(400), 1, 0);
        check.faulty(0, "word when 1=1" + "+1".repeat(193) + ")", 1, 399);
        check.faulty(0, "word when 1=1" + " ".repeat(387), 1, 400);
        check.faulty(0, "word;", 1, 4);
        check.faulty(0, "word when;", 1, 9);
        check.faulty(0, "word when 1=1", 1, 13);
        check.faulty(0, "word when 1=1;;", 1, 14);
        check.faulty(0, "word when 1=1=1;", 1, 13);
        check.faulty(0, "word when 1+1;", 1, 13);
        check.faulty(0, "word when (1+1)=2;", 1, 14);
        check.faulty(0, "word when 1=(1);", 1, 12);
        check.faulty(0, "word when -1=1;", 1, 10);
        check.faulty(0, "word when 1/loud=1;", 1, 12);
        check.faulty(0, "word when 1=1);", 1, 13);
        check.faulty(0, "word when (1=1;", 1, 14);
        check.faulty(0, "word when 1=1 or;", 1, 16);
        check.faulty(0, "word when 1=1 and or 1=1;", 1, 18);
        check.faulty(0, "word when 1=1 not 1=1;", 1, 14);
        check.faulty(0, "word when 1 2=1;", 1, 12);
        check.faulty(0, "word when 12345=1;", 1, 10);
        check.faulty(0, "word when 00000=1;", 1, 10);
        check.faulty(0, "word when 1/00000=1;", 1, 12);
        check.faulty(0, "word\twhen 1=1;", 1, 4);
        check.faulty(0, "word when 1=1\r;", 1, 13);
        check.faulty(0, "word when 1.=1;", 1, 11);
        check.faulty(0, "word when owes=1;", 1, 10);
        check.faulty(0, "word when 1=1;talk 5;", 1, 14);
        check.faulty(2, "word when 1=1;", 1, 0);
        check.faulty(2, "talk 5 when loud=1;", 1, 12);
        check.faulty(2, "talk;", 1, 4);
        check.faulty(2, "talk hour;", 1, 5);
        check.faulty(2, "hush 5;", 1, 5);
        check.faulty(2, "talk 12345;", 1, 5);
        check.faulty(2, "talk 5 work 6;", 1, 7);
        check.faulty(3, "when 1=1;", 1, 0);
        highBytes();
    }

    private static void highBytes() {
        String text = new String(new byte[] {'h', 'u', 's', 'h', (byte) 233, ';'}, StandardCharsets.ISO_8859_1);
        check.faulty(2, text, 1, 4);
        check.faulty(2, "hush\0;", 1, 4);
    }

    private static void badNumbers() {
        check.faulty(0, "word when loud/0=1;", 2, 15);
        check.faulty(0, "word when loud/ 0000 =1;", 2, 16);
        check.faulty(0, "word when 1=loud*2/0;", 2, 19);
        check.faulty(0, "word when loud/0 foo;", 2, 15);
        check.faulty(2, "talk 100;", 2, 5);
        check.faulty(2, "work 0100;", 2, 5);
        check.faulty(2, "work 9999 when", 2, 5);
        check.faulty(2, "hush when day/0=1;", 2, 14);
        check.faulty(2, "talk 99;work 100;", 2, 13);
    }

    private static void tooMany() {
        check.faulty(0, "word when 1=1;".repeat(17), 3, 224);
        check.faulty(0, "word when 1=1;".repeat(16) + "word", 3, 224);
        check.faulty(0, "word when 1=1;".repeat(16) + " wor", 1, 225);
        check.faulty(2, "hush;".repeat(16) + "\n\nhush;", 3, 82);
        check.faulty(2, "hush;".repeat(16) + "talk 100;", 3, 80);
        check.faulty(2, "hush;".repeat(16) + ";", 1, 80);
        check.faulty(0, "word when " + "not ".repeat(9) + "1=1;", 3, 42);
        check.faulty(0, "word when " + "(".repeat(9) + "1=1;", 3, 18);
        check.faulty(0, "word when " + "not(".repeat(4) + "not 1=1;", 3, 26);
        check.faulty(0, "word when " + "((((1=1))))and" + "(".repeat(9), 3, 32);
        check.faulty(0, "word when " + "(".repeat(8) + "foo", 1, 18);
        check.sound(0, "word when " + "(".repeat(7) + "not 1=1 and not 1=1 or (1=1)" + ")".repeat(7) + ";", 1);
        check.faulty(0, "word when " + "(".repeat(7) + "not not 1=1", 3, 21);
    }

    private static void fault() {
        SilenceForMoney x = new SilenceForMoney();
        Check.text(x, 0, "word whem");
        check.due("what 0", x.fault(0), 1);
        check.due("what 1", x.fault(1), 5);
        check.due("what 2", x.fault(2), -1);
        check.due("what -1", x.fault(-1), -1);
        Check.tape(x, "x");
        check.due("of the latest text()", x.fault(0), 1);
        x.end(0);
        x.text(0);
        check.due("without one", x.fault(0), 0);
        check.due("without a place", x.fault(1), -1);
    }

    private static int judge(String b, int sort, int loud, int hour, boolean child, boolean feast) {
        SilenceForMoney x = new SilenceForMoney();
        check.due("law " + b, Check.text(x, 1, "word when " + b + ";"), 1);
        return x.word(1, sort, loud, hour, child, feast);
    }

    private static void lawValues() {
        check.due("loud", judge("loud=17", 0, 17, 0, false, false), 1);
        check.due("sort", judge("sort=3", 3, 17, 0, false, false), 1);
        check.due("hour", judge("hour=23", 3, 17, 23, false, false), 1);
        int[] nights = {0, 5, 22, 23};
        int[] days = {6, 12, 21};
        for (int hour : nights) {
            check.due("night at " + hour, judge("night=1", 0, 0, hour, false, false), 1);
        }
        for (int hour : days) {
            check.due("day at " + hour, judge("night=0", 0, 0, hour, false, false), 1);
        }
        check.due("feast", judge("feast=1", 0, 0, 0, false, true), 1);
        check.due("no feast", judge("feast=0", 0, 0, 0, true, false), 1);
        check.due("child", judge("child=1", 0, 0, 0, true, false), 1);
        check.due("no child", judge("child=0", 0, 0, 0, false, true), 1);
    }

    private static void arithmetic() {
        String[] so = {
            "2*3*4=24", "1+2+3=6", "1-2+3=2", "100=1+99*1", "2+3*4=14", "2*3+4=10", "10-3-2=5", "10-2*3-1=3", "20/3=6", "20/3/2=3", "20/3*3=18", "2*7/3=4",
            "0-7=0-7", "0-7<0", "loud-5*2<0", "7-loud/2=4", "1+2*3-4/2=5",
            "1+9999*0=1", "5>4", "4<5", "not 5<5", "not 5>5", "0007=7"};
        for (String b : so) {
            check.due(b, judge(b, 0, 7, 12, false, false), 1);
        }
        check.due("wraps below 0", judge("9999*9999*22<0", 0, 0, 0, false, false), 9999 * 9999 * 22 < 0 ? 1 : 0);
        check.due("wraps above 0", judge("9999*9999*44>0", 0, 0, 0, false, false), 9999 * 9999 * 44 > 0 ? 1 : 0);
        check.due("it does wrap", 9999 * 9999 * 22 < 0, true);
        int part = 9999 * 9999 * 22 / 1000 + 9000;
        check.due("towards 0", judge("9999*9999*22/1000+9000=0-" + -part / 1000 + "*1000-" + -part % 1000,
            0, 0, 0, false, false), 1);
        check.due("a product below 0", judge("loud*2-9+9=7*2", 0, 7, 0, false, false), 1);
    }

    private static void logic() {
        check.due("and binds", judge("1=1 or 1=2 and 1=2", 0, 0, 0, false, false), 1);
        check.due("brackets", judge("(1=1 or 1=2) and 1=2", 0, 0, 0, false, false), 0);
        check.due("and first", judge("1=2 and 1=1 or 1=1", 0, 0, 0, false, false), 1);
        check.due("or in the middle", judge("1=2 and 1=1 or 1=1 and 1=2 or 1=2", 0, 0, 0, false, false), 0);
        check.due("not takes one", judge("not 1=1 or 1=1", 0, 0, 0, false, false), 1);
        check.due("not takes a bracket", judge("not(1=1 or 1=1)", 0, 0, 0, false, false), 0);
        check.due("not and", judge("not 1=2 and 1=2", 0, 0, 0, false, false), 0);
        check.due("twice not", judge("not not 1=1", 0, 0, 0, false, false), 1);
        check.due("some line", judge("1=2;word when 1=1;word when 1=2".split(";")[0], 0, 0, 0, false, false), 0);
        SilenceForMoney x = new SilenceForMoney();
        Check.text(x, 0, "word when 1=2;word when loud=4;word when 1=2;");
        check.due("the second line", x.word(0, 0, 4, 0, false, false), 1);
        check.due("none of them", x.word(0, 0, 5, 0, false, false), 0);
    }

    private static void word() {
        SilenceForMoney x = new SilenceForMoney();
        Check.text(x, 0, "word when 1=1;");
        check.due("law -1", x.word(-1, 0, 0, 0, false, false), -1);
        check.due("law 2", x.word(2, 0, 0, 0, false, false), -1);
        check.due("sort -1", x.word(0, -1, 0, 0, false, false), -1);
        check.due("sort 4", x.word(0, 4, 0, 0, false, false), -1);
        check.due("loud -1", x.word(0, 0, -1, 0, false, false), -1);
        check.due("loud 100", x.word(0, 0, 100, 0, false, false), -1);
        check.due("hour -1", x.word(0, 0, 0, -1, false, false), -1);
        check.due("hour 24", x.word(0, 0, 0, 24, false, false), -1);
        check.due("the edges", x.word(0, 3, 99, 23, true, true), 1);
        check.due("the other edges", x.word(0, 0, 0, 0, false, false), 1);
        check.due("an empty law", x.word(1, 0, 0, 0, false, false), 0);
    }

    private static void does() {
        SilenceForMoney x = new SilenceForMoney();
        x.one(0, 0, 0, 0, 1);
        x.one(1, 0, 0, 0, 1);
        x.one(2, 0, 0, 0, 1);
        x.one(0, 0, 0, 0, 4);
        check.due("an empty rule", x.does(0), 0);
        check.due("a child", x.does(1), -1);
        check.due("a mute", x.does(2), -1);
        check.due("without a rule", x.does(3), 0);
        check.due("nobody", x.does(4), -1);
        check.due("below", x.does(-1), -1);
        Check.text(x, 3, "talk 99;");
        check.due("talks loudest, by night too", x.does(0), 100);
        Check.text(x, 3, "talk 0;");
        check.due("talks softly", x.does(0), 1);
        Check.text(x, 3, "work 99;");
        check.due("works loudest", x.does(0), 200);
        Check.text(x, 3, "work 0;");
        check.due("works softly", x.does(0), 101);
        Check.text(x, 3, "hush when hour=0;work 5 when hour=1;talk 3;work 9;");
        check.due("the first so", x.does(0), 0);
        x.set(7, 7);
        check.due("the second so", x.does(0), 106);
        x.set(7, 8);
        check.due("one without", x.does(0), 4);
        Check.text(x, 3, "talk 3 when 1=2;");
        check.due("none is so", x.does(0), 0);
        x.tell(3, 3, 1);
        Check.text(x, 3, "talk 7;");
        check.due("one rule for two", x.does(3), 8);
    }

    private static boolean asks(SilenceForMoney x, int who, String b) {
        check.due("rule " + b, Check.text(x, 5, "talk 1 when " + b + ";"), 1);
        return x.does(who) == 2;
    }

    private static void ruleValues() {
        SilenceForMoney x = new SilenceForMoney();
        for (int i = 0; i < 3; i++) {
            x.one(0, i == 2 ? 1 : 0, 0, 0, 3);
        }
        x.one(1, 0, 0, 0, 3);
        x.debt(0, 1, 5);
        x.debt(1, 0, 7);
        x.debt(2, 0, 30);
        x.sell(1, 2, 0);
        x.set(6, 35);
        x.set(7, 50);
        x.set(4, 5);
        check.due("hour", asks(x, 0, "hour=12"), true);
        check.due("quarter", asks(x, 0, "quarter=2"), true);
        check.due("day", asks(x, 0, "day=35"), true);
        check.due("night", asks(x, 0, "night=0"), true);
        check.due("feast", asks(x, 0, "feast=1"), true);
        check.due("owes", asks(x, 0, "owes=5"), true);
        check.due("owes as a worker", asks(x, 2, "owes=37"), true);
        check.due("owes no more", asks(x, 1, "owes=0"), true);
        check.due("owed", asks(x, 0, "owed=37"), true);
        check.due("with", asks(x, 0, "with=2"), true);
        check.due("with nobody", asks(x, 2, "with=0"), true);
        x.set(7, 91);
        check.due("night later", asks(x, 0, "night=1 and hour=22 and quarter=3"), true);
        x.set(6, 36);
        check.due("no feast", asks(x, 0, "feast=0"), true);
        x.set(4, 0);
        x.set(6, 0);
        check.due("no feasts at all", asks(x, 0, "feast=0"), true);
        x.set(4, 99);
        check.due("each divides 0", asks(x, 0, "feast=1"), true);
    }
}
