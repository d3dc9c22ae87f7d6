/** Counts the answers that are not as due, and helps tests to put texts on the TAPE. */
final class Check {
    private final String name;
    private int calls;
    private int wrong;

    Check(String name) {
        this.name = name;
    }

    void due(String call, long got, long want) {
        calls++;
        if (got != want) {
            wrong++;
            System.out.println(name + ": " + call + " answered " + got + ", due is " + want);
        }
    }

    void due(String call, boolean got, boolean want) {
        due(call, got ? 1 : 0, want ? 1 : 0);
    }

    void due(String call, String got, String want) {
        due(call, got.equals(want), true);
    }

    void end() {
        System.out.println(name + ": " + calls + " answers looked at, " + wrong + " not as due");
        if (wrong != 0) {
            System.exit(1);
        }
    }

    /** Puts a text on the empty TAPE: fed by twenties, then cut. */
    static void tape(SilenceForMoney x, String text) {
        for (int at = 0; at < text.length(); at += 20) {
            int[] n = new int[5];
            for (int i = 0; i < 20; i++) {
                int c = at + i < text.length() ? text.charAt(at + i) : ' ';
                n[i / 4] = n[i / 4] << 8 | c;
            }
            x.feed(n[0], n[1], n[2], n[3], n[4]);
        }
        x.end(text.length());
    }

    static int text(SilenceForMoney x, int k, String text) {
        tape(x, text);
        return x.text(k);
    }

    /** A text that must have a FAULT. */
    void faulty(int k, String text, int fault, int place) {
        SilenceForMoney x = new SilenceForMoney();
        due("text " + text, text(x, k, text), SilenceForMoney.NONE);
        due("fault of " + text, x.fault(0), fault);
        due("place in " + text, x.fault(1), place);
    }

    /** A text that must have none. */
    void sound(int k, String text, int lines) {
        SilenceForMoney x = new SilenceForMoney();
        due("text " + text, text(x, k, text), lines);
        due("fault of " + text, x.fault(0), 0);
        due("place in " + text, x.fault(1), SilenceForMoney.NONE);
    }

    /** The DRAWS of the document, kept beside the object. */
    static final class Draws {
        int state;

        Draws(int state) {
            this.state = state;
        }

        int of(int m) {
            state = 1664525 * state + 1013904223;
            return (state >>> 8) % m;
        }
    }
}
