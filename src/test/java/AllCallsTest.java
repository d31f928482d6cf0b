import java.util.Random;

/**
 * Random runs in which every call of the face stands beside every other one, held to the Model and to Thoughts: what is
 * told for one thing must not be felt by another, and going back must bring back all that it should, and no more.
 */
public final class AllCallsTest {
    private static final int CALLS = 512;
    private static final String[] LAW = {"weep # when wet<# or kin>#;", "weep grip*#-tired;", "rate cause*#/2+1 when gate=#;",
        "rate #;", "find 500+nose*#0-soft;", "find 1000 when not(hour<#and coin>#0);", "find #00;"};
    private static final String[] KIN = {"traveller # with #;", "traveller 0 with 1;", "traveller 2\nwith 0 ;"};
    private static final String[] SHIFTS = {"at # send # to #;", "at 1 open #;", "at # close 1;", "at # move 0 to #;",
        "at # joke #;", "at # onion 0;"};
    private static final String[] ROADS = {"road # # dry ## wet #;", "road 0 # dry 1 wet 2;", "road # 1 dry 9 wet ##;",
        "road 1 0 dry # wet #;"};
    private static final String[][] TEXTS = {LAW, KIN, SHIFTS, ROADS};

    private final Random dice;
    private final String run;
    private final TearCustoms x = new TearCustoms();
    private final Model m = new Model();
    private final StringBuilder tape = new StringBuilder();
    private Thoughts thoughts = new Thoughts();
    private Thoughts kept = null;
    private int calls = 0;

    private AllCallsTest(int seed) {
        dice = new Random(seed);
        run = "run " + seed + ", call ";
    }

    public static void main(String[] args) {
        for (int seed = 0; seed < 2000; seed++) {
            new AllCallsTest(seed).play();
        }
        Check.finish();
    }

    private void play() {
        // A text takes up to 22 calls.
        while (calls < CALLS - 22) {
            switch (upTo(5)) {
                case 0: deed(); break;
                case 1: tell(); break;
                case 2: ask(); break;
                case 3: think(); break;
                default: if (upTo(4) == 0) {
                    back();
                } else {
                    thinkOfWorld();
                }
            }
        }
    }

    private int upTo(int n) {
        return dice.nextInt(n);
    }

    /** Mostly 0 .. n - 1, at times just beyond, seldom anything. */
    private int about(int n) {
        int way = upTo(40);
        return way == 0 ? dice.nextInt() : way == 1 ? n : way == 2 ? -1 : way == 3 ? -2 : upTo(n);
    }

    /** NONE, by which a row begins anew, is seldom told. */
    private int told(int n) {
        int v = about(n);
        return v == -1 && upTo(3) != 0 ? 0 : v;
    }

    private void same(String call, long got, long want) {
        calls++;
        Check.same(run + calls + ": " + call, got, want);
    }

    private void same(String call, boolean got, boolean want) {
        same(call, got ? 1 : 0, want ? 1 : 0);
    }

    private void deed() {
        int a = about(4);
        int b = about(6);
        int c = about(10);
        switch (upTo(9)) {
            case 0: same("traveller", x.traveller(b, c, 9 * c + b), m.traveller(b, c, 9 * c + b)); break;
            case 1: same("officer", x.officer(a, c, b), m.officer(a, c, b)); break;
            case 2: same("set", x.set(b, a, 2 * c), m.set(b, a, 2 * c)); break;
            case 3: same("act", x.act(b, a, c), m.act(b, a, c)); break;
            case 4: same("send", x.act(0, c, a), m.act(0, c, a)); break;
            case 5: same("weigh", x.weigh(c, a), m.weigh(c, a)); break;
            case 6: same("hours", x.hours(a), m.hours(a)); break;
            case 7: if (upTo(6) == 0) {
                same("state", x.state(b << c), m.state(b << c));
            }
                break;
            default: tellText();
        }
    }

    private void tellText() {
        int k = upTo(4);
        StringBuilder text = new StringBuilder();
        for (int i = upTo(5); i > 0; i--) {
            text.append(TEXTS[k][upTo(TEXTS[k].length)]);
        }
        for (int i = 0; i < text.length(); i++) {
            if (text.charAt(i) == '#') {
                text.setCharAt(i, (char) ('0' + upTo(upTo(3) == 0 ? 10 : 4)));
            }
        }
        if (upTo(3) != 0) {
            end(0);
        }
        while (text.length() % 20 != 0) {
            text.append(' ');
        }
        for (int from = 0; from < text.length(); from += 20) {
            feed(text.substring(from, from + 20));
        }
        if (upTo(3) == 0) {
            end(upTo(tape.length() + 2) - upTo(2));
        }
        text(upTo(6) == 0 ? about(4) : k);
    }

    private void feed(String twenty) {
        int[] five = new int[5];
        for (int i = 0; i < 20; i++) {
            five[i / 4] = five[i / 4] << 8 | twenty.charAt(i);
        }
        boolean fits = tape.length() + 20 <= 400;
        tape.append(fits ? twenty : "");
        same("feed", x.feed(five[0], five[1], five[2], five[3], five[4]), fits ? tape.length() : -1);
    }

    private void end(int n) {
        boolean has = n >= 0 && n <= tape.length();
        same("end", x.end(n), has);
        tape.setLength(has ? n : tape.length());
    }

    private void text(int k) {
        same("text " + k + " '" + tape + "'", x.text(k), m.text(k, tape.toString()));
        tape.setLength(0);
    }

    private void tell() {
        int a = told(6);
        int b = told(10);
        int c = told(24);
        switch (upTo(10)) {
            case 0: same("order", x.order(c, b, a), thoughts.order(c, b, a)); break;
            case 1: same("hand", x.hand(a, b / 2), thoughts.hand(a, b / 2)); break;
            case 2: same("weight", x.weight(c), thoughts.weight(c)); break;
            case 3: same("bag", x.bag(a), thoughts.bag(a)); break;
            case 4: same("weighed", x.weighed(c, b + a), thoughts.weighed(c, b + a)); break;
            case 5: same("count", x.count(a, b / 2, c), thoughts.count(a, b / 2, c)); break;
            case 6: same("salt", x.salt(c), thoughts.salt(c)); break;
            case 7: same("ledger", x.ledger(c, a), thoughts.ledger(c, a)); break;
            case 8: same("years", x.years(c, 77 * a + b), thoughts.years(c, 77 * a + b)); break;
            default: feed("wholly something @#$");
        }
    }

    private void ask() {
        int a = about(6);
        int b = about(10);
        int c = about(16);
        switch (upTo(6)) {
            case 0: same("fault", x.fault(a / 2), a / 2 == 0 ? m.fault : a / 2 == 1 ? m.place : -1); break;
            case 1: same("of " + b + ", " + (a + c), x.of(b, a + c), of(b, a + c)); break;
            case 2: same("who " + a + ", " + b / 2, x.who(a, b / 2), who(a, b / 2)); break;
            case 3: same("book " + c + ", " + a, x.book(c, a), book(c, a)); break;
            default: same("look " + c, x.look(c), look(c));
        }
    }

    private int of(int t, int what) {
        if (!m.has(t)) {
            return -2;
        }
        Model.Person p = m.world.people.get(t);
        int o = what % 10;
        if (what >= 10) {
            return what < 30 && m.hasGuard(o) ? m.tells(what < 20 ? "rate" : "find", t, m.world.guards.get(o)) : -2;
        }
        int[] of = {p.cause, p.grip, p.coin, p.wet, p.at, p.out, p.bond, m.kinOf(t), m.tells("weep", t, null)};
        return what >= 0 && what < of.length ? of[what] : -2;
    }

    private int who(int o, int what) {
        if (!m.hasGuard(o) || what < 0 || what > 3) {
            return -1;
        }
        Model.Guard g = m.world.guards.get(o);
        return new int[] {g.gate, g.nose, g.soft, g.tired}[what];
    }

    private int book(int i, int what) {
        boolean is = i >= 0 && i < m.world.book.size() && what >= 0 && what < 4;
        return is ? m.world.book.get(i)[what] : -1;
    }

    private int look(int what) {
        Model.World w = m.world;
        int open = 0;
        for (int g = 0; g < 4; g++) {
            open += w.open[g] ? 1 << g : 0;
        }
        int[] look = {w.people.size(), w.guards.size(), w.hour, w.treasury, w.basin, w.smuggled, open, m.outSet(),
            w.book.size(), w.state, m.law.size(), m.kin.size(), m.shifts.size(), m.roads.size(), m.undo.size()};
        return what >= 0 && what < look.length ? look[what] : -100000;
    }

    private void think() {
        int what = about(2);
        int a = about(6);
        int c = about(16);
        switch (upTo(9)) {
            // All orders of eight are many: they are tried now and then.
            case 0: if (upTo(8) == 0) {
                same("ordered", x.ordered(what), thoughts.ordered(what));
            }
                break;
            case 1: same("hands", x.hands(what), thoughts.hands(what)); break;
            case 2: same("crates", x.crates(a + 2 * c, what), thoughts.crates(a + 2 * c, what)); break;
            case 3: same("suspects", x.suspects(what), thoughts.suspects(what)); break;
            case 4: same("likely", x.likely(a, c), thoughts.likely(a, c)); break;
            case 5: same("likely most", x.likely(-1, c), thoughts.likely(-1, c)); break;
            case 6: same("won", x.won(a), thoughts.won(a)); break;
            case 7: same("altered", x.altered(what), thoughts.altered(what)); break;
            default: same("dry", x.dry(what), thoughts.dry(what));
        }
    }

    private void thinkOfWorld() {
        int what = about(2);
        int a = about(4);
        int b = about(100);
        switch (upTo(5)) {
            case 0: same("goes", x.goes(b / 3, a), m.goes(b / 3, a)); break;
            case 1: same("rate", x.rate(what), Thoughts.rate(m, what)); break;
            case 2: same("driest", x.driest(a, b / 25, b, what), Thoughts.driest(m, a, b / 25, b, what)); break;
            case 3: same("votes", x.votes(a, what), Thoughts.votes(m, a, what)); break;
            default: same("game", x.game(what), Thoughts.game(m, what));
        }
    }

    private void back() {
        if (upTo(3) != 0) {
            same("undo", x.undo(), m.undo());
            return;
        }
        boolean taken = upTo(2) == 0;
        same("image " + taken, x.image(taken), m.image(taken));
        if (taken) {
            kept = thoughts.copy();
        } else if (kept != null) {
            thoughts = kept.copy();
        }
    }
}
