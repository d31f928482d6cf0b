/** Promise by promise: ordinary inputs, the edges that the document names, and wrong inputs. */
public final class PromiseTest {
    private static final int NONE = TearCustoms.NONE;
    private static final int[] WRONG = {Integer.MIN_VALUE, -2, 99999, Integer.MAX_VALUE};

    public static void main(String[] args) {
        newObject();
        stateAndDraws();
        travellersAndOfficers();
        setting();
        acting();
        weighing();
        bookOfRateNothing();
        hourByHour();
        latestHour();
        fullBook();
        tape();
        lawTexts();
        lawValues();
        rowTexts();
        goes();
        rate();
        order();
        hands();
        crates();
        bags();
        driest();
        likely();
        salt();
        ledger();
        years();
        votesAndGame();
        undoing();
        forgetting();
        image();
        Check.finish();
    }

    private static void is(String what, long got, long want) {
        Check.same(what, got, want);
    }

    private static void is(String what, boolean got, boolean want) {
        Check.same(what, got, want);
    }

    private static void newObject() {
        TearCustoms x = new TearCustoms();
        for (int what = 0; what < 15; what++) {
            is("look " + what, x.look(what), what == 6 ? 15 : 0);
        }
        is("look -1", x.look(-1), -100000);
        is("look 15", x.look(15), -100000);
        is("fault 0", x.fault(0), 0);
        is("fault 1", x.fault(1), NONE);
        is("fault 2", x.fault(2), NONE);
        is("fault -1", x.fault(-1), NONE);
        is("feed", x.feed(0, 0, 0, 0, 0), 20);
        is("another object is its own", new TearCustoms().feed(0, 0, 0, 0, 0), 20);
    }

    private static void stateAndDraws() {
        TearCustoms x = new TearCustoms();
        is("state", x.state(5), 0);
        is("state", x.state(-7), 5);
        is("look 9", x.look(9), -7);
        x.traveller(0, 0, 0);
        x.officer(0, 0, 0);
        x.state(1);
        x.weigh(0, 0);
        is("one draw", x.look(9), 1664525 + 1013904223);
        x.state(Integer.MIN_VALUE);
        is("state", x.state(0), Integer.MIN_VALUE);
        // From state 0 the first draw of 1000 is 563.
        for (int find = 562; find <= 565; find++) {
            TearCustoms y = new TearCustoms();
            y.traveller(0, 0, 10);
            y.officer(0, 0, 0);
            y.set(1, 0, 4);
            Check.fine(y, 0, "find " + find + ";", 1);
            is("found by " + find, y.weigh(0, 0), find > 563 ? 4 : 0);
        }
    }

    private static void travellersAndOfficers() {
        TearCustoms x = new TearCustoms();
        for (int v : WRONG) {
            is("traveller", x.traveller(v, 0, 0), NONE);
            is("traveller", x.traveller(0, v, 0), NONE);
            is("traveller", x.traveller(0, 0, v), NONE);
            is("officer", x.officer(v, 0, 0), NONE);
            is("officer", x.officer(0, v, 0), NONE);
            is("officer", x.officer(0, 0, v), NONE);
        }
        is("traveller", x.traveller(-1, 0, 0), NONE);
        is("traveller", x.traveller(0, -1, 0), NONE);
        is("traveller", x.traveller(0, 0, -1), NONE);
        is("officer", x.officer(-1, 0, 0), NONE);
        for (int t = 0; t < 12; t++) {
            is("traveller", x.traveller(t % 6, t % 10, t == 11 ? 9999 : t), t);
        }
        is("a thirteenth traveller", x.traveller(0, 0, 0), NONE);
        for (int o = 0; o < 6; o++) {
            is("officer", x.officer(o % 4, 9 - o, o + 4), o);
        }
        is("a seventh officer", x.officer(0, 0, 0), NONE);
        is("look 0", x.look(0), 12);
        is("look 1", x.look(1), 6);
        int[] of = {5, 1, 9999, 0, NONE, 0, 0, 0, 8, -2, 6, 6, 6, 6, 6, 6, -2, -2, -2, -2, 950, 900, 850, 800, 750, 700, -2};
        for (int what = 0; what < of.length; what++) {
            is("of 11, " + what, x.of(11, what), of[what]);
        }
        int[] who = {1, 4, 9, 0, NONE};
        for (int what = 0; what < who.length; what++) {
            is("who 5, " + what, x.who(5, what), who[what]);
        }
        for (int v : WRONG) {
            is("of", x.of(v, 0), -2);
            is("of", x.of(0, v), -2);
            is("who", x.who(v, 0), NONE);
            is("who", x.who(0, v), NONE);
        }
        is("of 12", x.of(12, 0), -2);
        is("of -1", x.of(-1, 0), -2);
        is("of, -1", x.of(0, -1), -2);
        is("who 6", x.who(6, 0), NONE);
        is("who -1", x.who(-1, 0), NONE);
    }

    private static void setting() {
        TearCustoms x = new TearCustoms();
        x.traveller(0, 0, 0);
        x.officer(0, 0, 0);
        int[] most = {9999, 99, 9, 9, 9};
        int[] seen = {2, 3, 1, 3, 2};
        for (int what = 0; what < 5; what++) {
            is("set " + what, x.set(what, 0, most[what]), true);
            is("set " + what, what < 3 ? x.of(0, seen[what]) : x.who(0, seen[what]), most[what]);
            is("set beyond " + what, x.set(what, 0, most[what] + 1), false);
            is("set below " + what, x.set(what, 0, -1), false);
            is("set of none " + what, x.set(what, 1, 0), false);
            is("set of none " + what, x.set(what, -1, 0), false);
            is("set " + what + " is as it was", what < 3 ? x.of(0, seen[what]) : x.who(0, seen[what]), most[what]);
            is("set " + what, x.set(what, 0, 0), true);
        }
        is("set 5", x.set(5, 0, 0), false);
        is("set -1", x.set(-1, 0, 0), false);
        is("set least", x.set(Integer.MIN_VALUE, 0, 0), false);
    }

    private static void acting() {
        TearCustoms x = new TearCustoms();
        x.traveller(0, 0, 0);
        x.traveller(0, 0, 0);
        x.officer(0, 0, 0);
        is("send", x.act(0, 0, 3), true);
        is("at", x.of(0, 4), 3);
        is("send there again", x.act(0, 0, 3), true);
        is("send to no gate", x.act(0, 0, 4), false);
        is("send to no gate", x.act(0, 0, -1), false);
        is("send nobody", x.act(0, 2, 0), false);
        is("move", x.act(3, 0, 2), true);
        is("gate", x.who(0, 0), 2);
        is("move to no gate", x.act(3, 0, 4), false);
        is("move nobody", x.act(3, 1, 0), false);
        x.set(1, 0, 85);
        is("onion", x.act(2, 0, 77), true);
        is("wet", x.of(0, 3), 99);
        is("joke", x.act(1, 0, -77), true);
        is("wet", x.of(0, 3), 49);
        is("joke for nobody", x.act(1, 2, 0), false);
        is("onion for nobody", x.act(2, -1, 0), false);
        is("close", x.act(5, 3, 99), true);
        is("gates", x.look(6), 7);
        is("close again", x.act(5, 3, 0), false);
        is("open", x.act(4, 3, -99), true);
        is("open again", x.act(4, 3, 0), false);
        is("gates", x.look(6), 15);
        is("close no gate", x.act(5, 4, 0), false);
        is("open no gate", x.act(4, -1, 0), false);
        is("act 6", x.act(6, 0, 0), false);
        is("act -1", x.act(-1, 0, 0), false);
        x.set(1, 0, 0);
        x.weigh(0, 0);
        is("out", x.of(0, 5), 1);
        for (int what = 0; what < 3; what++) {
            is("act " + what + " for one out", x.act(what, 0, 0), false);
        }
        is("set for one out", x.set(1, 0, 5), true);
    }

    private static void weighing() {
        TearCustoms x = new TearCustoms();
        x.traveller(3, 0, 10);
        x.traveller(3, 0, 12);
        x.officer(1, 0, 0);
        Check.fine(x, 0, "find 1000;", 1);
        x.act(0, 0, 2);
        x.set(1, 0, 3);
        x.set(1, 1, 3);
        x.set(3, 0, 9);
        is("bonded: all his coin", x.weigh(0, 0), 10);
        int[] of = {3, 0, 0, 0, 2, 0, 1};
        for (int what = 0; what < of.length; what++) {
            is("bonded " + what, x.of(0, what), of[what]);
        }
        is("tired is nine at most", x.who(0, 3), 9);
        is("just enough coin", x.weigh(1, 0), 12);
        is("out", x.of(1, 5), 1);
        is("treasury", x.look(3), 22);
        is("basin", x.look(4), 6);
        is("smuggled", x.look(5), 0);
        Check.fine(x, 0, "find 0;", 1);
        x.set(1, 0, 7);
        is("not found", x.weigh(0, 0), 0);
        is("at none", x.of(0, 4), NONE);
        is("bond is off", x.of(0, 6), 0);
        is("smuggled", x.look(5), 7);
        is("basin", x.look(4), 6);
        int[][] lines = {{0, 1, 0, 10}, {0, 0, 1, 12}, {0, 2, 0, 7}};
        for (int i = 0; i < 3; i++) {
            for (int what = 0; what < 4; what++) {
                is("book " + i + ", " + what, x.book(i, what), lines[i][what]);
            }
        }
        is("book 3", x.book(3, 0), NONE);
        is("book -1", x.book(-1, 0), NONE);
        is("book, 4", x.book(0, 4), NONE);
        is("book, -1", x.book(0, -1), NONE);
        is("weigh one out", x.weigh(0, 0), NONE);
        is("weigh nobody", x.weigh(2, 0), NONE);
        is("weigh nobody", x.weigh(-1, 0), NONE);
        is("weigh by nobody", x.weigh(0, 1), NONE);
        is("weigh by nobody", x.weigh(0, -1), NONE);
    }

    /** Found, but charged nothing: the book calls whoever is out without a charge, wet, smuggled out. */
    private static void bookOfRateNothing() {
        TearCustoms x = new TearCustoms();
        x.traveller(0, 0, 10);
        x.traveller(0, 0, 10);
        x.officer(0, 0, 0);
        Check.fine(x, 0, "find 1000; rate 0;", 2);
        x.set(1, 0, 4);
        is("paid", x.weigh(0, 0), 0);
        is("paid", x.weigh(1, 0), 0);
        is("basin", x.look(4), 4);
        is("wet without a charge", x.book(0, 1), 2);
        is("how much", x.book(0, 3), 4);
        is("dry", x.book(1, 1), 0);
        is("how much", x.book(1, 3), 0);
    }

    private static void hourByHour() {
        TearCustoms x = new TearCustoms();
        for (int t = 0; t < 4; t++) {
            x.traveller(0, 7, 0);
        }
        x.officer(0, 9, 0);
        x.officer(0, 9, 0);
        x.officer(1, 9, 0);
        Check.fine(x, 0, "find 1000;", 1);
        Check.fine(x, 2, "at 0 send 3 to 0; at 0 send 1 to 0; at 1 send 2 to 0; at 0 close 1; at 0 onion 1;"
                + "at 2 move 2 to 0; at 2 joke 0;", 7);
        x.act(0, 0, 1);
        is("one dry out, one bonded", x.hours(1), 1);
        is("the first at it is weighed", x.of(1, 6), 1);
        is("the next by the next officer", x.of(3, 5), 1);
        is("a closed gate", x.of(0, 5), 0);
        is("weeping after it", x.of(1, 3), 2);
        is("weeping", x.of(0, 3), 2);
        is("tired", x.who(0, 3), 1);
        is("tired", x.who(2, 3), 0);
        is("hour", x.look(2), 1);
        is("book's hour", x.book(0, 0), 0);
        is("no coin: bonded again", x.hours(1), 0);
        is("bonds", x.of(1, 6) + x.of(2, 6), 2);
        is("nothing paid", x.book(2, 3), 0);
        is("wept an hour before it came", x.of(2, 3), 2);
        x.set(3, 0, 9);
        x.set(3, 1, 8);
        is("hour 2", x.hours(1), 0);
        is("too tired: rests", x.who(0, 3), 8);
        is("weighed: more tired", x.who(1, 3), 9);
        is("moved", x.who(2, 0), 0);
        is("moved ahead of the weighing", x.who(2, 3), 1);
        is("joke ahead of the weeping", x.of(0, 3), 4);
        is("hours 0", x.hours(0), NONE);
        is("hours 61", x.hours(61), NONE);
        is("hours -1", x.hours(-1), NONE);
        is("hours most", x.hours(Integer.MAX_VALUE), NONE);
        is("hour is as it was", x.look(2), 3);
        x.hours(60);
        is("wet is 99 at most", x.of(0, 3), 99);
        is("officers who weigh nobody are not below 0", x.who(0, 3) >= 0, true);
    }

    private static void latestHour() {
        TearCustoms x = new TearCustoms();
        for (int i = 0; i < 166; i++) {
            is("hours", x.hours(60), 0);
        }
        is("hour", x.look(2), 9960);
        is("beyond", x.hours(40), NONE);
        is("to the last", x.hours(39), 0);
        is("hour", x.look(2), 9999);
        is("beyond", x.hours(1), NONE);
        is("thought of", x.goes(60, 0), 0);
        x.traveller(0, 0, 0);
        Check.fine(x, 0, "weep hour;", 1);
        is("9999 modulo 24", x.of(0, 8), 15);
        is("undo", x.undo(), false);
    }

    private static void fullBook() {
        TearCustoms x = new TearCustoms();
        for (int t = 0; t < 6; t++) {
            x.traveller(0, 0, 0);
            x.officer(0, 0, 0);
            x.act(0, t, 0);
        }
        Check.fine(x, 0, "find 1000; rate 1;", 2);
        x.set(1, 0, 1);
        for (int t = 0; t < 6; t++) {
            x.set(1, t, 1);
        }
        x.hours(60);
        is("lines after 60 hours", x.look(8), 150);
        is("basin goes on", x.look(4) > 150, true);
        is("the last line", x.book(149, 1), 1);
        is("the last line", x.book(149, 3), 0);
        int who = x.book(149, 2);
        int hour = x.book(149, 0);
        x.image(true);
        for (int i = 0; i < 6; i++) {
            x.undo();
        }
        x.image(false);
        is("the last line of the image", x.book(149, 2), who);
        is("the last line of the image", x.book(149, 0), hour);
        x.hours(2);
        is("no more lines", x.book(150, 1), NONE);
        int state = x.look(9);
        is("undo", x.undo(), true);
        is("undo", x.undo(), true);
        is("still full", x.look(8), 150);
        is("state went back", x.look(9) != state, true);
    }

    private static void tape() {
        TearCustoms x = new TearCustoms();
        is("end 0", x.end(0), true);
        is("end 1", x.end(1), false);
        is("end -1", x.end(-1), false);
        for (int i = 1; i <= 20; i++) {
            is("feed", x.feed(0x3b3b3b3b, -1, 0, 0, 0), 20 * i);
        }
        is("feed beyond 400", x.feed(0, 0, 0, 0, 0), NONE);
        is("end 401", x.end(401), false);
        is("end 400", x.end(400), true);
        is("end 381", x.end(381), true);
        is("end 382", x.end(382), false);
        is("feed beyond 400", x.feed(0, 0, 0, 0, 0), NONE);
        is("end 380", x.end(380), true);
        is("feed", x.feed(0, 0, 0, 0, 0), 400);
        is("text", x.text(0), NONE);
        is("fault", x.fault(0), 1);
        is("place", x.fault(1), 0);
        is("the tape is empty behind a fault", x.end(1), false);
        x.feed(0x77656570, 0x20313b20, 0x20202020, 0x20202020, 0x20202020);
        is("the highest byte first", x.text(0), 1);
        is("the tape is empty", x.end(1), false);
        x.feed(0, 0, 0, 0, 0);
        is("no such text", x.text(-1), NONE);
        is("fault", x.fault(0), 0);
        is("place", x.fault(1), NONE);
        is("the tape is empty", x.end(1), false);
        Check.faulty(x, 0, "weep", 1, 4);
        is("no such text", x.text(4), NONE);
        is("fault of the latest", x.fault(0), 0);
        is("place of the latest", x.fault(1), NONE);
        for (int v : WRONG) {
            is("text", x.text(v), NONE);
            is("fault", x.fault(v), NONE);
            is("end", x.end(v), false);
        }
        is("the law is still told", x.look(10), 1);
    }

    private static void lawTexts() {
        TearCustoms x = new TearCustoms();
        Check.fine(x, 0, " \n ", 0);
        Check.fine(x, 0, "weep 1;rate\n2 ;find 0003;", 3);
        Check.faulty(x, 0, "weep 00001;", 1, 5);
        Check.faulty(x, 0, "weep\t1;", 1, 4);
        Check.faulty(x, 0, "weepx 1;", 1, 0);
        Check.faulty(x, 0, "weepX 1;", 1, 0);
        Check.faulty(x, 0, "Weep 1;", 1, 0);
        for (char c : "azAZ".toCharArray()) {
            Check.faulty(x, 0, "weep" + c + " 1;", 1, 0);
        }
        for (char c : "@[`{:_".toCharArray()) {
            Check.faulty(x, 0, "weep" + c + "1;", 1, 4);
        }
        Check.faulty(x, 0, "weep 1/1:;", 1, 8);
        Check.faulty(x, 0, "weep 1/;", 1, 7);
        Check.faulty(x, 0, "weep 1", 1, 6);
        Check.faulty(x, 0, "weep 1  ", 1, 8);
        Check.faulty(x, 0, "weep 1;;", 1, 7);
        Check.faulty(x, 0, "weep 1+;", 1, 7);
        Check.faulty(x, 0, "weep -1;", 1, 5);
        Check.faulty(x, 0, "weep (1);", 1, 5);
        Check.faulty(x, 0, "weep 1 2;", 1, 7);
        Check.faulty(x, 0, "weep 6/wet;", 1, 7);
        Check.faulty(x, 0, "weep 6/0000;", 2, 7);
        Check.faulty(x, 0, "weep 6/0", 2, 7);
        Check.faulty(x, 0, "weep 6/00000;", 1, 7);
        Check.faulty(x, 0, "weep 1 when;", 1, 11);
        Check.faulty(x, 0, "weep 1 when wet;", 1, 15);
        Check.faulty(x, 0, "weep 1 when 1<2<3;", 1, 15);
        Check.faulty(x, 0, "weep 1 when (1<2;", 1, 16);
        Check.faulty(x, 0, "weep 1 when 1<2);", 1, 15);
        Check.faulty(x, 0, "weep 1 when (1)<2;", 1, 14);
        Check.faulty(x, 0, "weep 1 when 1<2 and;", 1, 19);
        Check.faulty(x, 0, "weep 1 when or 1<2;", 1, 12);
        Check.faulty(x, 0, "weep 1 when not;", 1, 15);
        Check.faulty(x, 0, "with 1;", 1, 0);
        Check.faulty(x, 0, "weep traveller;", 1, 5);
        Check.faulty(x, 0, "weep 1; " + (char) 233, 1, 8);
        Check.fine(x, 0, "weep 1 when ((((((((1=1))))))));", 1);
        Check.fine(x, 0, "weep 1 when not not not not not not not not 1=1 and not not not not not not not not 1=1;", 1);
        Check.fine(x, 0, "weep 1 when (not (not (not (not 1=1)))) or ((((((((1=1))))))));", 1);
        Check.faulty(x, 0, "weep 1 when (not (not (not (not (1=1)))));", 3, 32);
        Check.faulty(x, 0, "weep 1 when ((((((((not 1=1))))))));", 3, 20);
        String line = "weep 1;";
        Check.fine(x, 0, line.repeat(16), 16);
        is("look 10", x.look(10), 16);
        Check.faulty(x, 0, line.repeat(16) + "rate", 3, 112);
        Check.faulty(x, 0, line.repeat(16) + "kin", 1, 112);
        Check.faulty(x, 0, line.repeat(16) + ";", 1, 112);
        Check.faulty(x, 0, "weep 1/0;" + line.repeat(16), 2, 7);
        is("the law stays as it was", x.look(10), 16);
        String longest = "weep 1" + "+1".repeat(196) + " ;";
        Check.fine(x, 0, longest, 1);
        x.traveller(0, 0, 0);
        is("weep is 99 at most", x.of(0, 8), 99);
    }

    private static int lawOf(TearCustoms x, String line, int what) {
        Check.fine(x, 0, line, 1);
        return x.of(0, what);
    }

    private static void lawValues() {
        TearCustoms x = new TearCustoms();
        x.traveller(5, 4, 77);
        x.traveller(0, 0, 0);
        x.traveller(0, 0, 0);
        x.officer(2, 7, 6);
        x.set(1, 0, 33);
        x.set(3, 0, 3);
        String[] names = {"cause", "grip", "wet", "coin", "hour", "gate", "nose", "soft", "tired", "kin"};
        int[] rate = {5, 4, 33, 77, 0, 0, 7, 6, 3, 0};
        for (int i = 0; i < names.length; i++) {
            is(names[i], lawOf(x, "rate " + names[i] + ";", 10), rate[i]);
            is(names[i], lawOf(x, "weep " + names[i] + ";", 8), i > 5 ? 0 : rate[i]);
        }
        Check.fine(x, 1, "traveller 0 with 1; traveller 2 with 0; traveller 1 with 0;", 3);
        x.act(0, 0, 3);
        x.weigh(1, 0);
        x.hours(1);
        is("gate", lawOf(x, "weep gate;", 8), 3);
        is("hour", lawOf(x, "weep hour;", 8), 1);
        is("kin", lawOf(x, "weep kin;", 8), 1);
        x.weigh(2, 0);
        is("kin", x.of(0, 8), 2);
        x.hours(25);
        is("hour modulo 24", lawOf(x, "weep hour;", 8), 2);
        is("products first", lawOf(x, "weep 2+3*4-6/2;", 8), 11);
        is("from the left", lawOf(x, "weep 20-5-4;", 8), 11);
        is("from the left", lawOf(x, "weep 7/2*2;", 8), 6);
        is("parts go towards 0", lawOf(x, "weep 9+1-5*3/1;", 8), 0);
        is("parts go towards 0", lawOf(x, "find 100 when 0*1-7=0-7;", 20), 100);
        is("a product of a sum's part", lawOf(x, "weep 0-7*1/2+9;", 8), 6);
        is("wrapping", lawOf(x, "find 9999*9999*9999;", 20), Math.max(0, Math.min(1000, 9999 * 9999 * 9999)));
        is("held from below", lawOf(x, "find 0-1;", 20), 0);
        is("held from above", lawOf(x, "find 1001;", 20), 1000);
        is("held from above", lawOf(x, "rate 100;", 10), 99);
        is("held from below", lawOf(x, "rate 1-2;", 10), 0);
        is("and before or", lawOf(x, "rate 7 when 1=1 or 1=1 and 1=2;", 10), 7);
        is("and before or", lawOf(x, "rate 7 when (1=1 or 1=1) and 1=2;", 10), 6);
        is("not of one", lawOf(x, "rate 7 when not 1=1 or 1=1;", 10), 7);
        is("not of all", lawOf(x, "rate 7 when not (1=1 or 1=1);", 10), 6);
        is("not not", lawOf(x, "rate 7 when not not 2>1;", 10), 7);
        is("less", lawOf(x, "rate 7 when 2<2;", 10), 6);
        is("more", lawOf(x, "rate 7 when 2>2;", 10), 6);
        Check.fine(x, 0, "find 3; rate 1 when 1=2; weep 1; rate 2; rate 3; weep 2;", 6);
        is("the first that is so", x.of(0, 10), 2);
        is("the first", x.of(0, 8), 1);
        is("find", x.of(0, 20), 3);
        Check.fine(x, 0, "rate 1 when 1=2;".repeat(15) + "rate 1+2*3 when 1=2 or 1=2 or 1=1 and 1+1=2*1;", 16);
        is("the last line", x.of(0, 10), 7);
        Check.fine(x, 0, "rate 1 when 1=2;", 1);
        is("none is so", x.of(0, 10), 6);
        Check.fine(x, 0, "", 0);
        is("without", x.of(0, 8), 5);
        is("without", x.of(0, 20), 850);
    }

    private static void rowTexts() {
        TearCustoms x = new TearCustoms();
        Check.faulty(x, 1, "traveller 0 with 0;", 2, 10);
        Check.faulty(x, 2, "at 0 move 0 to 0;", 2, 10);
        for (int t = 0; t < 3; t++) {
            x.traveller(0, 0, 0);
        }
        x.officer(0, 0, 0);
        x.officer(0, 0, 0);
        Check.fine(x, 1, "traveller 0 with 2;traveller2with 0;", 2);
        is("kin", x.of(0, 7), 4);
        is("kin", x.of(2, 7), 1);
        is("kin", x.of(1, 7), 0);
        Check.faulty(x, 1, "traveller 1 with 3;", 2, 17);
        Check.faulty(x, 1, "traveller 1 with 1;", 2, 17);
        Check.faulty(x, 1, "traveller 1 with 12345;", 1, 17);
        Check.faulty(x, 1, "traveller 1 2;", 1, 12);
        Check.faulty(x, 1, "traveller 1 with 2", 1, 18);
        Check.faulty(x, 1, "at 1 joke 1;", 1, 0);
        is("kin stays as it was", x.of(0, 7), 4);
        Check.fine(x, 1, "traveller 0 with 1;".repeat(16), 16);
        Check.faulty(x, 1, "traveller 0 with 1;".repeat(16) + "traveller", 3, 304);
        Check.faulty(x, 1, "traveller 0 with 1;".repeat(16) + "with", 1, 304);
        is("look 11", x.look(11), 16);

        Check.fine(x, 2, "at 999 send 2 to 3; at 0 open 3; at 0 close 0; at 0 move 1 to 0; at 0 joke 0; at 0 onion 2;", 6);
        is("look 12", x.look(12), 6);
        Check.faulty(x, 2, "at 1000 open 0;", 2, 3);
        Check.faulty(x, 2, "at 0 send 3 to 0;", 2, 10);
        Check.faulty(x, 2, "at 0 send 0 to 4;", 2, 15);
        Check.faulty(x, 2, "at 0 send 0 4;", 1, 12);
        Check.faulty(x, 2, "at 0 open 4;", 2, 10);
        Check.faulty(x, 2, "at 0 close 4;", 2, 11);
        Check.faulty(x, 2, "at 0 move 2 to 0;", 2, 10);
        Check.faulty(x, 2, "at 0 move 1 to 9;", 2, 15);
        Check.faulty(x, 2, "at 0 joke 3;", 2, 10);
        Check.faulty(x, 2, "at 0 onion 3;", 2, 11);
        Check.faulty(x, 2, "at 0 onion 2 to 1;", 1, 13);
        Check.faulty(x, 2, "at 0 weigh 2;", 1, 5);
        Check.faulty(x, 2, "at open 0;", 1, 3);
        Check.fine(x, 2, "at 0 open 0;".repeat(16), 16);
        Check.faulty(x, 2, "at 0 open 0;".repeat(17), 3, 192);

        Check.fine(x, 3, "road 0 9 dry 0 wet 99; road 9 0 dry 99 wet 0;", 2);
        is("look 13", x.look(13), 2);
        Check.faulty(x, 3, "road 10 0 dry 0 wet 0;", 2, 5);
        Check.faulty(x, 3, "road 0 10 dry 0 wet 0;", 2, 7);
        Check.faulty(x, 3, "road 4 4 dry 0 wet 0;", 2, 7);
        Check.faulty(x, 3, "road 0 1 dry 100 wet 0;", 2, 13);
        Check.faulty(x, 3, "road 0 1 dry 0 wet 100;", 2, 19);
        Check.faulty(x, 3, "road 0 1 wet 0 dry 0;", 1, 9);
        Check.faulty(x, 3, "road 0 1 dry 0;", 1, 14);
        Check.fine(x, 3, "road 0 1 dry 0 wet 0;".repeat(16), 16);
        Check.faulty(x, 3, "road 0 1 dry 0 wet 0;".repeat(17), 3, 336);
    }

    private static void goes() {
        TearCustoms x = new TearCustoms();
        x.traveller(0, 0, 50);
        x.traveller(1, 0, 5);
        x.traveller(0, 0, 5);
        x.officer(0, 0, 0);
        x.officer(1, 9, 0);
        x.act(0, 0, 0);
        x.act(0, 1, 1);
        x.set(1, 0, 30);
        x.set(1, 1, 20);
        Check.fine(x, 2, "at 1 send 2 to 0;", 1);
        Check.fine(x, 0, "find 499 when cause=0 and coin<40; find 500;", 2);
        x.state(99);
        int[][] due = {{35, 1, 50, 1}, {35, 2, 59, 1}};
        for (int n = 1; n <= 2; n++) {
            for (int what = 0; what < 4; what++) {
                is("goes " + n + ", " + what, x.goes(n, what), due[n - 1][what]);
            }
        }
        is("nothing stays", x.look(2) + x.look(3) + x.look(7) + x.look(8), 0);
        is("no draws", x.look(9), 99);
        is("wet", x.of(0, 3), 30);
        for (int v : WRONG) {
            is("goes", x.goes(v, 0), NONE);
            is("goes", x.goes(1, v), NONE);
        }
        is("goes 0", x.goes(0, 0), NONE);
        is("goes 61", x.goes(61, 0), NONE);
        is("goes 60", x.goes(60, 1), 2);
        is("goes, 4", x.goes(1, 4), NONE);
        is("goes, -1", x.goes(1, -1), NONE);
    }

    private static void rate() {
        TearCustoms x = new TearCustoms();
        x.traveller(0, 0, 9999);
        is("dry: the least", x.rate(0), 0);
        x.set(1, 0, 99);
        is("the most", x.rate(0), 99);
        is("the sum", x.rate(1), 9801);
        x.traveller(0, 0, 30);
        x.set(1, 0, 10);
        x.set(0, 0, 60);
        x.set(1, 1, 10);
        is("of several the least", x.rate(0), 3);
        is("the sum", x.rate(1), 60);
        is("rate 2", x.rate(2), NONE);
        is("rate -1", x.rate(-1), NONE);
    }

    private static void order() {
        TearCustoms x = new TearCustoms();
        is("none", x.ordered(0), 0);
        is("none", x.ordered(1), NONE);
        for (int v : WRONG) {
            is("order", x.order(v, 0, 1), NONE);
            is("order", x.order(0, v, 1), NONE);
            is("order", x.order(0, 0, v), NONE);
            is("ordered", x.ordered(v), NONE);
        }
        is("weep -1", x.order(0, -1, 1), NONE);
        is("rate 10", x.order(0, 0, 10), NONE);
        is("one", x.order(99, 9, 9), 1);
        is("sum", x.ordered(0), 891);
        is("cleared", x.order(NONE, 50, 50), 0);
        for (int i = 0; i < 8; i++) {
            is("order", x.order(99, i == 3 || i == 5 ? 9 : 1, 9), i + 1);
        }
        is("a ninth", x.order(0, 0, 1), NONE);
        // No bound of 99 is told for what has been wept here.
        is("sum", x.ordered(0), 8 * 891 + 81 + 9 * (2 + 3 + 4 + 5 + 6 + 7));
        is("the lesser number", x.ordered(1), 3);
        is("cleared", x.order(NONE, 0, 0), 0);
        x.order(0, 0, 1);
        x.order(0, 0, 1);
        is("all alike: the first", x.ordered(1), 0);
        is("ordered 2", x.ordered(2), NONE);
        is("ordered -1", x.ordered(-1), NONE);
    }

    private static void hands() {
        TearCustoms x = new TearCustoms();
        is("none: one way", x.hands(1), 1);
        for (int i = 0; i < 16; i++) {
            is("hand", x.hand(i / 4, i % 4), i + 1);
        }
        is("a seventeenth", x.hand(0, 0), NONE);
        is("hands", x.hands(0), 4);
        is("ways", x.hands(1), 24);
        is("cleared", x.hand(NONE, 99), 0);
        is("hands", x.hands(0), 0);
        x.hand(5, 5);
        x.hand(5, 5);
        x.hand(4, 5);
        is("two by one hand", x.hands(0), 1);
        is("in two ways", x.hands(1), 2);
        for (int v : WRONG) {
            is("hand", x.hand(v, 0), NONE);
            is("hand", x.hand(0, v), NONE);
            is("hands", x.hands(v), NONE);
        }
        is("hand 6", x.hand(6, 0), NONE);
        is("hand, 6", x.hand(0, 6), NONE);
        is("hand, -1", x.hand(0, -1), NONE);
        is("hands 2", x.hands(2), NONE);
        is("hands -1", x.hands(-1), NONE);
    }

    private static void crates() {
        TearCustoms x = new TearCustoms();
        is("weight 0", x.weight(0), NONE);
        is("weight 41", x.weight(41), NONE);
        int[] weights = {6, 5, 5, 4, 4, 3, 2, 1};
        for (int i = 0; i < 8; i++) {
            is("weight", x.weight(weights[i]), i + 1);
        }
        is("a ninth", x.weight(1), NONE);
        is("crates of 10", x.crates(10, 0), 3);
        is("fit 10", x.crates(10, 1), 4);
        is("crates of 6", x.crates(6, 0), 6);
        is("too heavy", x.crates(5, 0), NONE);
        is("fit 5", x.crates(5, 1), 2);
        is("crates of 1", x.crates(1, 1), 1);
        is("crates of 99", x.crates(99, 0), 1);
        is("fit 99", x.crates(99, 1), 8);
        for (int v : WRONG) {
            is("crates", x.crates(v, 0), NONE);
            is("crates", x.crates(v, 1), NONE);
            is("crates", x.crates(10, v), NONE);
            is("weight", x.weight(v), NONE);
        }
        is("crates of 0", x.crates(0, 1), NONE);
        is("crates of 100", x.crates(100, 1), NONE);
        is("crates, 2", x.crates(10, 2), NONE);
        is("crates, -1", x.crates(10, -1), NONE);
        is("cleared", x.weight(NONE), 0);
        is("no crates", x.crates(1, 0), 0);
        for (int i = 0; i < 8; i++) {
            x.weight(40);
        }
        is("one each", x.crates(40, 0), 8);
        is("two each", x.crates(99, 0), 4);
    }

    private static void bags() {
        TearCustoms x = new TearCustoms();
        is("bag 0", x.bag(0), NONE);
        is("bag 100", x.bag(100), NONE);
        for (int i = 0; i < 10; i++) {
            is("bag", x.bag(i == 0 ? 99 : 1), i + 1);
        }
        is("an eleventh", x.bag(1), NONE);
        is("all", x.suspects(0), 1023);
        is("three of ten", x.suspects(1), 7);
        is("other bits", x.weighed(1024, 0), NONE);
        is("weighed -1", x.weighed(-1, 0), NONE);
        is("weighed, -1", x.weighed(1, -1), NONE);
        is("weighed, 10000", x.weighed(1, 10000), NONE);
        is("weighed", x.weighed(1023 - 31, 12), 1);
        is("suspects", x.suspects(0), 992);
        is("two of five", x.suspects(1), 96);
        is("weighed", x.weighed(96, 9), 2);
        is("suspects", x.suspects(0), 96);
        is("one of the two and the least", x.suspects(1), 33);
        is("nothing weighs nothing", x.weighed(0, 0), 3);
        is("suspects", x.suspects(0), 96);
        is("weighed", x.weighed(33, 9999), 4);
        is("nobody", x.suspects(0), 0);
        is("none next", x.suspects(1), NONE);
        is("weighed", x.weighed(33, 0), 5);
        is("weighed", x.weighed(33, 0), 6);
        is("a seventh", x.weighed(33, 0), NONE);
        is("suspects 2", x.suspects(2), NONE);
        is("suspects -1", x.suspects(-1), NONE);
        is("cleared", x.bag(NONE), 0);
        is("no bags", x.suspects(0), 0);
        is("bag", x.bag(5), 1);
        is("nothing is weighed", x.suspects(0), 1);
        is("one alone", x.suspects(1), NONE);
        for (int v : WRONG) {
            is("bag", x.bag(v), NONE);
            is("weighed", x.weighed(v, 0), NONE);
            is("weighed", x.weighed(1, v), NONE);
            is("suspects", x.suspects(v), NONE);
        }
        is("weighed", x.weighed(1, 12), 1);
    }

    private static void driest() {
        TearCustoms x = new TearCustoms();
        is("alike", x.driest(4, 4, 99, 0), 99);
        is("alike", x.driest(4, 4, 99, 1), 0);
        Check.fine(x, 3, "road 0 1 dry 50 wet 20; road 1 2 dry 0 wet 99; road 0 2 dry 0 wet 99; road 2 0 dry 1 wet 0;", 4);
        is("held at 0, then wet", x.driest(0, 1, 10, 0), 20);
        is("held at 99", x.driest(0, 2, 10, 0), 99);
        is("of the same the fewest roads", x.driest(0, 2, 10, 1), 1);
        is("not back", x.driest(1, 0, 10, 0), 98);
        is("by two", x.driest(1, 0, 10, 1), 2);
        Check.fine(x, 3, "road 0 1 dry 1 wet 0; road 1 0 dry 1 wet 0;", 2);
        is("twelve roads at most", x.driest(0, 0, 50, 0), 38);
        is("twelve", x.driest(0, 0, 50, 1), 12);
        is("eleven", x.driest(0, 1, 50, 0), 39);
        is("eleven", x.driest(0, 1, 50, 1), 11);
        is("no way", x.driest(0, 2, 50, 0), NONE);
        is("no way", x.driest(0, 2, 50, 1), NONE);
        Check.fine(x, 3, "road 0 1 dry 1 wet 0; road 0 1 dry 50 wet 0; road 1 0 dry 0 wet 0;", 3);
        is("the first line alone", x.driest(0, 1, 50, 0), 44);
        for (int v : WRONG) {
            is("driest", x.driest(v, 0, 0, 0), NONE);
            is("driest", x.driest(0, v, 0, 0), NONE);
            is("driest", x.driest(0, 0, v, 0), NONE);
            is("driest", x.driest(0, 0, 0, v), NONE);
        }
        is("from 10", x.driest(10, 10, 0, 0), NONE);
        is("from -1", x.driest(-1, -1, 0, 0), NONE);
        is("w 100", x.driest(0, 0, 100, 0), NONE);
        is("w -1", x.driest(0, 0, -1, 0), NONE);
        is("what 2", x.driest(0, 0, 0, 2), NONE);
        is("what -1", x.driest(0, 0, 0, -1), NONE);
    }

    private static void likely() {
        TearCustoms x = new TearCustoms();
        for (int v : WRONG) {
            is("count", x.count(v, 0, 0), false);
            is("count", x.count(0, v, 0), false);
            is("count", x.count(0, 0, v), false);
            is("likely", x.likely(v, 0), NONE);
            is("likely", x.likely(0, v), NONE);
            is("likely", x.likely(NONE, v), NONE);
        }
        is("count -1", x.count(0, 0, -1), false);
        is("count 1000", x.count(0, 0, 1000), false);
        is("likely 6", x.likely(6, 0), NONE);
        is("likely, 16", x.likely(NONE, 16), NONE);
        is("likely, -1", x.likely(0, -1), NONE);
        for (int c = 0; c < 6; c++) {
            is("all alike", x.likely(c, 15), 166666);
        }
        for (int c = 0; c < 6; c++) {
            is("count", x.count(c, 3, 999), true);
        }
        is("a look never seen", x.likely(NONE, 7), 0);
        is("all 0", x.likely(0, 7), 0);
        is("count", x.count(4, 0, 999), true);
        is("most", x.likely(NONE, 1), 4);
        is("told anew", x.count(4, 0, 0), true);
        is("most", x.likely(NONE, 1), 0);
        is("count", x.count(4, 3, 0), true);
        // 166666 by 4, and five times 166666 by 1003: 41666 of 42496.
        is("likely", x.likely(4, 1), 41666L * 1000000 / 42496);
    }

    private static void salt() {
        TearCustoms x = new TearCustoms();
        is("nothing", x.won(3), 0);
        for (int v : WRONG) {
            is("salt", x.salt(v), NONE);
            is("won", x.won(v), NONE);
        }
        is("salt 100", x.salt(100), NONE);
        is("won 0", x.won(0), NONE);
        is("won -1", x.won(-1), NONE);
        is("won 4", x.won(4), NONE);
        int[] prices = {99, 0, 50, 0, 60, 0, 70, 0, 80, 30, 20, 10};
        for (int i = 0; i < 12; i++) {
            is("salt", x.salt(prices[i]), i + 1);
        }
        is("a thirteenth", x.salt(0), NONE);
        is("won 1", x.won(1), 80);
        is("won 2", x.won(2), 150);
        is("won 3", x.won(3), 210);
        is("cleared", x.salt(NONE), 0);
        for (int v = 90; v > 0; v -= 10) {
            x.salt(v);
        }
        is("only less", x.won(3), 0);
        x.salt(NONE);
        x.salt(1);
        x.salt(5);
        x.salt(9);
        is("sold and bought on one day", x.won(2), 8);
    }

    private static void ledger() {
        TearCustoms x = new TearCustoms();
        is("all right", x.altered(0), -10000);
        is("all right", x.altered(1), -10000);
        for (int v : WRONG) {
            is("ledger", x.ledger(v, 0), false);
            is("ledger", x.ledger(0, v), false);
            is("altered", x.altered(v), -10000);
        }
        is("ledger 24", x.ledger(24, 0), false);
        is("ledger -1", x.ledger(-1, 0), false);
        is("ledger, -1", x.ledger(0, -1), false);
        is("ledger 15, 100", x.ledger(15, 100), false);
        is("ledger 23, 1000", x.ledger(23, 1000), false);
        is("ledger 16, 100", x.ledger(16, 999), true);
        is("a row alone", x.altered(0), -10000);
        is("ledger 23", x.ledger(23, 999), true);
        is("number 3", x.altered(0), 3);
        is("by", x.altered(1), -999);
        is("ledger 15", x.ledger(15, 99), true);
        is("two rows", x.altered(0), -10000);
        is("ledger 16", x.ledger(16, 0), true);
        is("not as much", x.altered(0), -10000);
        is("ledger 23", x.ledger(23, 0), true);
        is("number 15", x.altered(0), 15);
        is("by", x.altered(1), 99);
        is("altered 2", x.altered(2), -10000);
        is("altered -1", x.altered(-1), -10000);
        is("ledger 20", x.ledger(20, 1), true);
        is("two columns", x.altered(0), -10000);
        TearCustoms y = new TearCustoms();
        y.ledger(3, 5);
        y.ledger(23, 5);
        is("no column", y.altered(0), -10000);
        y.ledger(23, 0);
        y.ledger(16, 5);
        is("no row", y.altered(0), -10000);
    }

    private static void years() {
        TearCustoms x = new TearCustoms();
        is("none", x.dry(0), 0);
        is("none", x.dry(1), NONE);
        is("years", x.years(30, 0), true);
        is("all", x.dry(0), 30);
        is("from the first", x.dry(1), 0);
        is("years", x.years(30, (1 << 30) - 1), true);
        is("wept each", x.dry(0), 0);
        is("none", x.dry(1), NONE);
        is("years", x.years(7, 0b0010010), true);
        is("two", x.dry(0), 2);
        is("the first of several", x.dry(1), 2);
        is("other bits", x.years(7, 128), false);
        is("other bits", x.years(7, -1), false);
        is("years 0", x.years(0, 0), false);
        is("years 31", x.years(31, 0), false);
        is("years 30", x.years(30, 1 << 30), false);
        is("as it was", x.dry(0), 2);
        is("years", x.years(7, 0b0001011), true);
        is("at the end", x.dry(1), 4);
        for (int v : WRONG) {
            is("years", x.years(v, 0), false);
            is("years", x.years(5, v), false);
            is("dry", x.dry(v), NONE);
        }
        is("dry 2", x.dry(2), NONE);
        is("dry -1", x.dry(-1), NONE);
    }

    private static void votesAndGame() {
        TearCustoms x = new TearCustoms();
        is("no officers", x.game(0), NONE);
        is("no officers", x.votes(3, 1), 0);
        x.officer(0, 0, 0);
        x.officer(0, 0, 1);
        x.officer(3, 0, 2);
        is("votes", x.votes(0, 0), 3);
        is("votes", x.votes(1, 0), 0);
        is("half is not more", x.votes(0, 1), 4);
        is("weighs", x.votes(3, 1), 4);
        is("weighs nothing", x.votes(1, 1), 0);
        x.act(5, 0, 0);
        is("closed gates count", x.votes(0, 0), 3);
        x.act(3, 0, 1);
        is("moved", x.votes(1, 0), 1);
        is("not tired", x.game(1), NONE);
        x.set(3, 0, 1);
        x.set(3, 1, 1);
        is("who begins loses", x.game(0), NONE);
        is("who begins loses", x.game(1), NONE);
        x.set(3, 2, 2);
        is("the third", x.game(0), 2);
        is("two", x.game(1), 2);
        x.set(3, 2, 4);
        is("none: four by turns of three", x.game(0), NONE);
        x.set(3, 2, 5);
        is("of several the least", x.game(0), 0);
        is("one", x.game(1), 1);
        for (int v : WRONG) {
            is("votes", x.votes(v, 0), NONE);
            is("votes", x.votes(0, v), NONE);
            is("game", x.game(v), NONE);
        }
        is("votes 4", x.votes(4, 0), NONE);
        is("votes -1", x.votes(-1, 0), NONE);
        is("votes, 2", x.votes(0, 2), NONE);
        is("game 2", x.game(2), NONE);
        is("game -1", x.game(-1), NONE);
    }

    private static void undoing() {
        TearCustoms x = new TearCustoms();
        x.traveller(0, 0, 9999);
        x.traveller(0, 0, 3);
        x.officer(0, 0, 0);
        x.set(1, 1, 50);
        is("nothing", x.undo(), false);
        for (int i = 1; i <= 8; i++) {
            x.act(2, 0, 0);
            is("look 14", x.look(14), Math.min(6, i));
        }
        for (int i = 0; i < 6; i++) {
            is("undo", x.undo(), true);
        }
        is("six are kept", x.undo(), false);
        is("two onions", x.of(0, 3), 40);
        x.act(1, 0, 0);
        x.act(0, 0, 2);
        x.act(3, 0, 1);
        x.act(5, 2, 0);
        x.act(4, 2, 0);
        is("undo", x.undo(), true);
        is("closed", x.look(6), 11);
        is("undo", x.undo(), true);
        is("open", x.look(6), 15);
        is("undo", x.undo(), true);
        is("moved back", x.who(0, 0), 0);
        is("undo", x.undo(), true);
        is("sent back", x.of(0, 4), NONE);
        is("undo", x.undo(), true);
        is("no joke", x.of(0, 3), 40);
        Check.fine(x, 0, "find 1000;", 1);
        x.act(0, 1, 0);
        x.state(4);
        is("bonded", x.weigh(1, 0), 3);
        is("out", x.hours(1), 1);
        is("lines", x.look(8), 2);
        is("undo", x.undo(), true);
        is("lines", x.look(8), 1);
        is("at", x.of(1, 4), 0);
        is("hour", x.look(2), 0);
        is("out", x.look(7), 0);
        is("undo", x.undo(), true);
        int[] was = {0, 0, 3, 50, 0, 0, 0};
        for (int what = 0; what < was.length; what++) {
            is("as it was " + what, x.of(1, what), was[what]);
        }
        is("book", x.look(8), 0);
        is("treasury", x.look(3), 0);
        is("basin", x.look(4), 0);
        is("tired", x.who(0, 3), 0);
        is("state", x.look(9), 4);
        is("the law stays", x.look(10), 1);
        is("nothing", x.undo(), false);
        x.hours(60);
        is("six hours are kept", x.look(14), 6);
        is("undo", x.undo(), true);
        is("one hour", x.look(2), 59);
    }

    /** Does this call leave what can be undone? It is done with an opening kept. */
    private static void forgets(TearCustoms x, String what, boolean forgets, Runnable call) {
        x.act(5, 1, 0);
        x.act(4, 1, 0);
        int before = x.look(14);
        call.run();
        is(what + " forgets", x.look(14), forgets ? 0 : before);
    }

    private static void forgetting() {
        TearCustoms x = new TearCustoms();
        x.traveller(0, 0, 0);
        x.officer(0, 0, 0);
        forgets(x, "state", true, () -> x.state(0));
        forgets(x, "traveller", true, () -> x.traveller(0, 0, 0));
        forgets(x, "no traveller", false, () -> x.traveller(9, 0, 0));
        forgets(x, "officer", true, () -> x.officer(0, 0, 0));
        forgets(x, "no officer", false, () -> x.officer(9, 0, 0));
        forgets(x, "set", true, () -> x.set(0, 0, 0));
        forgets(x, "set", true, () -> x.set(4, 0, 0));
        forgets(x, "no set", false, () -> x.set(4, 0, 10));
        forgets(x, "no act", false, () -> x.act(6, 0, 0));
        forgets(x, "no weigh", false, () -> x.weigh(9, 0));
        forgets(x, "no hours", false, () -> x.hours(0));
        forgets(x, "feed", false, () -> x.feed(0, 0, 0, 0, 0));
        forgets(x, "end", false, () -> x.end(0));
        forgets(x, "law", false, () -> Check.tell(x, 0, "weep 1;"));
        forgets(x, "kin", false, () -> Check.tell(x, 1, "traveller 0 with 1;"));
        forgets(x, "shifts", true, () -> Check.tell(x, 2, "at 0 open 1;"));
        forgets(x, "no shifts", false, () -> Check.tell(x, 2, "at 0 open 7;"));
        forgets(x, "no text", false, () -> x.text(4));
        forgets(x, "roads", false, () -> Check.tell(x, 3, "road 0 1 dry 0 wet 0;"));
        forgets(x, "goes", false, () -> x.goes(60, 0));
        forgets(x, "order", false, () -> x.order(0, 0, 1));
        forgets(x, "hand", false, () -> x.hand(0, 0));
        forgets(x, "weight", false, () -> x.weight(1));
        forgets(x, "bag", false, () -> x.bag(1));
        forgets(x, "weighed", false, () -> x.weighed(1, 1));
        forgets(x, "count", false, () -> x.count(0, 0, 1));
        forgets(x, "salt", false, () -> x.salt(1));
        forgets(x, "ledger", false, () -> x.ledger(0, 1));
        forgets(x, "years", false, () -> x.years(1, 1));
        forgets(x, "no image", false, () -> x.image(false));
        forgets(x, "taking the image", false, () -> x.image(true));
        forgets(x, "going back", true, () -> x.image(false));
    }

    private static int[] thoughts(TearCustoms x) {
        return new int[] {x.ordered(0), x.hands(0), x.crates(9, 1), x.suspects(0), x.likely(0, 1), x.likely(5, 8), x.won(1),
            x.altered(0), x.dry(0), x.driest(0, 1, 50, 0), x.look(10), x.look(11), x.look(12), x.look(13), x.look(0), x.look(1), x.look(2),
            x.look(3), x.look(4), x.look(5), x.look(6), x.look(7), x.look(8), x.look(9), x.book(0, 2), x.of(0, 2), x.who(0, 3),
            x.of(1, 3), x.of(1, 4), x.of(1, 1), x.of(1, 7), x.of(1, 8), x.of(0, 10), x.of(0, 20)};
    }

    private static void tellAll(TearCustoms x) {
        x.traveller(0, 0, 20);
        x.officer(0, 0, 0);
        Check.tell(x, 0, "weep 3; find 900;");
        Check.tell(x, 1, "traveller 0 with 1;");
        Check.tell(x, 2, "at 1 send 1 to 2; at 1 close 1;");
        Check.tell(x, 3, "road 0 1 dry 9 wet 2;");
        x.order(1, 2, 3);
        x.hand(1, 1);
        x.weight(4);
        x.bag(7);
        x.bag(7);
        x.weighed(1, 14);
        x.count(0, 0, 5);
        x.count(5, 3, 500);
        x.salt(3);
        x.salt(8);
        x.ledger(3, 3);
        x.years(3, 1);
        x.set(2, 1, 5);
        x.set(1, 1, 9);
    }

    private static void image() {
        TearCustoms x = new TearCustoms();
        is("none", x.image(false), false);
        x.traveller(3, 0, 11);
        tellAll(x);
        x.set(1, 0, 3);
        x.weigh(0, 0);
        x.hours(2);
        int[] was = thoughts(x);
        is("taken", x.image(true), true);
        is("what can be undone stays", x.look(14), 3);
        for (int round = 0; round < 2; round++) {
            for (int i = round; i < 2; i++) {
                x.undo();
            }
            x.traveller(1, 1, 1);
            x.officer(1, 1, 1);
            x.act(0, 1, 0);
            x.hours(30);
            x.weigh(1, 0);
            x.act(5, 3, 0);
            x.state(77);
            Check.tell(x, 0, "");
            Check.tell(x, 1, "");
            Check.tell(x, 2, "");
            Check.tell(x, 3, "");
            x.order(NONE, 0, 0);
            x.hand(NONE, 0);
            x.weight(NONE);
            x.bag(NONE);
            x.count(0, 0, 900);
            x.count(5, 3, 0);
            x.salt(NONE);
            x.ledger(3, 0);
            x.years(9, 0);
            x.act(2, 2, 0);
            Check.tape(x, "weep");
            is("text", x.text(0), NONE);
            Check.tape(x, "weep 4;");
            is("back", x.image(false), true);
            int[] then = thoughts(x);
            for (int i = 0; i < was.length; i++) {
                is("as it was " + i, then[i], was[i]);
            }
            is("nothing can be undone", x.look(14), 0);
            is("nothing can be undone", x.undo(), false);
            is("the fault stays", x.fault(0), 1);
            is("its place stays", x.fault(1), 4);
            is("the tape stays", x.text(0), 1);
            is("its law", x.of(1, 8), 4);
            x.image(false);
        }
        x.hours(1);
        is("taken anew", x.image(true), true);
        x.hours(1);
        x.image(false);
        is("the later one", x.look(2), 3);
    }
}
