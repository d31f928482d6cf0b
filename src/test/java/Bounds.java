import java.util.function.Consumer;

/** What the tests of boundary sentences share: short names, and the ints beyond every bound. */
abstract class Bounds {
    static final int NONE = TearCustoms.NONE;
    static final int LEAST = Integer.MIN_VALUE;
    static final int MOST = Integer.MAX_VALUE;

    static void is(String what, long got, long want) {
        Check.same(what, got, want);
    }

    static void is(String what, boolean got, boolean want) {
        Check.same(what, got, want);
    }

    static void holds(int promise, String words, Consumer<TearCustoms> test) {
        Sentences.holds(promise, words, test);
    }

    static void unchanged(TearCustoms x, Runnable calls) {
        Seen.unchanged(x, calls);
    }

    /** 24 hours in which six are weighed, who have no coin: 144 lines. */
    static void fillBook(TearCustoms x) {
        for (int t = 0; t < 6; t++) {
            x.traveller(0, 0, 0);
            x.officer(0, 0, 0);
        }
        for (int t = 0; t < 6; t++) {
            x.act(0, t, 0);
            x.set(1, t, 1);
        }
        Check.fine(x, 0, "find 1000; weep 1;", 2);
        for (int hour = 0; hour < 24; hour++) {
            for (int o = 0; o < 6; o++) {
                x.set(3, o, 0);
            }
            x.hours(1);
        }
        is("lines", x.look(8), 144);
    }
}
