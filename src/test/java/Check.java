import java.nio.charset.StandardCharsets;

/** What the tests share: counting what is wrong, and telling texts. */
final class Check {
    private static int wrong = 0;
    private static int asked = 0;
    private static String about = "";

    private Check() {
    }

    /** What stands before all that is printed from now on. */
    static void about(String words) {
        about = words;
    }

    static int asked() {
        return asked;
    }

    static int wrong() {
        return wrong;
    }

    static void same(String what, long got, long want) {
        asked++;
        if (got != want) {
            wrong++;
            if (wrong <= 40) {
                System.out.println(about + what + " answered " + got + ", due is " + want);
            }
        }
    }

    static void same(String what, boolean got, boolean want) {
        same(what, got ? 1 : 0, want ? 1 : 0);
    }

    /** Puts a text on the TAPE, which has to be empty. */
    static void tape(TearCustoms x, String text) {
        byte[] bytes = text.getBytes(StandardCharsets.ISO_8859_1);
        int[] five = new int[5];
        for (int from = 0; from < bytes.length; from += 20) {
            for (int i = 0; i < 20; i++) {
                int b = from + i < bytes.length ? bytes[from + i] & 255 : 32;
                five[i / 4] = five[i / 4] << 8 | b;
            }
            x.feed(five[0], five[1], five[2], five[3], five[4]);
        }
        x.end(bytes.length);
    }

    static int tell(TearCustoms x, int k, String text) {
        tape(x, text);
        return x.text(k);
    }

    /** Tells a text that has to be refused with this fault at this place. */
    static void faulty(TearCustoms x, int k, String text, int fault, int place) {
        same("text " + k + " '" + text + "'", tell(x, k, text), TearCustoms.NONE);
        same("fault of '" + text + "'", x.fault(0), fault);
        same("place in '" + text + "'", x.fault(1), place);
    }

    /** Tells a text that has to be taken with so many lines. */
    static void fine(TearCustoms x, int k, String text, int lines) {
        same("text " + k + " '" + text + "'", tell(x, k, text), lines);
        same("fault of '" + text + "'", x.fault(0), 0);
        same("place in '" + text + "'", x.fault(1), TearCustoms.NONE);
    }

    static void finish() {
        System.out.println(asked + " asked, " + wrong + " wrong");
        if (wrong != 0) {
            System.exit(1);
        }
    }
}
