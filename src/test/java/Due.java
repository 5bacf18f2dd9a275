/** Counts and prints answers that are not the ones due. */
final class Due {
    private static int wrong = 0;
    private static int asked = 0;

    private Due() {
    }

    static void is(String call, long got, long want) {
        asked++;
        if (got != want) {
            wrong++;
            if (wrong <= 50) {
                System.out.println(call + " answered " + got + ", due is " + want);
            }
        }
    }

    static void is(String call, boolean got, boolean want) {
        is(call, got ? 1 : 0, want ? 1 : 0);
    }

    /** Puts a text on the tape, which holds it alone then. */
    static void tape(WolfsHead x, String text) {
        x.end(0);
        for (int at = 0; at < text.length(); at += 20) {
            int[] words = new int[5];
            for (int i = 0; i < 20; i++) {
                int sign = at + i < text.length() ? text.charAt(at + i) : 0;
                words[i / 4] |= sign << 24 - 8 * (i % 4);
            }
            x.feed(words[0], words[1], words[2], words[3], words[4]);
        }
        is("end of " + text, x.end(text.length()), text.length());
    }

    static int text(WolfsHead x, String text) {
        tape(x, text);
        return x.text();
    }

    /** A text with a fault, its number and its place. */
    static void fault(String text, int what, int place) {
        WolfsHead x = new WolfsHead();
        is("P7 text of [" + text + "]", text(x, text), what == 0 ? 0 : -1);
        is("P8 fault(0) of [" + text + "]", x.fault(0), what);
        is("P8 fault(1) of [" + text + "]", x.fault(1), what == 0 ? -1 : place);
    }

    static void done() {
        System.out.println(asked + " answers, " + wrong + " not as due");
        if (wrong != 0) {
            System.exit(1);
        }
    }
}
