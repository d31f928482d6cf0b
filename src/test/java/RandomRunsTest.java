import java.util.ArrayList;
import java.util.Collections;
import java.util.List;
import java.util.Random;

/** Random runs of calls on an object and on the Model: each answer, and all that can be looked at, must be the same. */
public final class RandomRunsTest {
    private static final String[] LAW_WORDS = {"weep", "rate", "find", "when", "or", "and", "not", "cause", "grip", "wet",
        "coin", "hour", "gate", "nose", "soft", "tired", "kin", "(", ")", "+", "-", "*", "/", "<", "=", ">", ";", "0", "3"};
    private static final String[] ROW_WORDS = {"traveller", "with", "at", "send", "to", "open", "close", "move", "joke",
        "onion", "road", "dry", "wet", ";", "0", "1", "4", "9", "12", "100", "999", "1000", "12345", "at0send"};
    private static final String[] NAMES = {"cause", "grip", "wet", "coin", "hour", "gate", "nose", "soft", "tired", "kin"};

    private final Random dice;
    private final TearCustoms x = new TearCustoms();
    private final Model m = new Model();
    private final String run;
    private int calls = 0;

    private RandomRunsTest(int seed) {
        dice = new Random(seed);
        run = "run " + seed + ": ";
    }

    public static void main(String[] args) {
        for (int seed = 0; seed < 8000; seed++) {
            new RandomRunsTest(seed).play();
        }
        Check.finish();
    }

    private int upTo(int n) {
        return dice.nextInt(n);
    }

    /** Mostly 0 .. n - 1, at times just beyond. */
    private int about(int n) {
        return upTo(12) == 0 ? (upTo(2) == 0 ? -1 : n) : upTo(n);
    }

    private void play() {
        for (int i = upTo(9); i > 0; i--) {
            newTraveller();
        }
        for (int i = upTo(5); i > 0; i--) {
            newOfficer();
        }
        // What an object answers after its 512th call is free: most of them are asked at the end, some after each deed.
        while (calls < 160) {
            one();
            compare(upTo(6) == 0 ? 20 : 4);
        }
        compare(400);
    }

    private void same(String what, long got, long want) {
        calls++;
        Check.same(what, got, want);
    }

    private void same(String what, boolean got, boolean want) {
        same(what, got ? 1 : 0, want ? 1 : 0);
    }

    private void newTraveller() {
        int a = about(6);
        int b = about(10);
        int c = upTo(3) == 0 ? about(10000) : upTo(200);
        same(run + "traveller", x.traveller(a, b, c), m.traveller(a, b, c));
    }

    private void newOfficer() {
        int a = about(4);
        int b = about(10);
        int c = about(10);
        same(run + "officer", x.officer(a, b, c), m.officer(a, b, c));
    }

    private void one() {
        int a;
        int b;
        int c;
        switch (upTo(16)) {
            case 0:
                if (upTo(4) == 0) {
                    newTraveller();
                } else if (upTo(4) == 0) {
                    newOfficer();
                }
                break;
            case 1:
                a = about(5);
                b = about(a < 3 ? 10 : 5);
                c = upTo(2) == 0 ? about(10) : about(a == 0 ? 10000 : 100);
                same(run + "set", x.set(a, b, c), m.set(a, b, c));
                break;
            case 2:
            case 3:
            case 4:
            case 5:
                a = upTo(3) == 0 ? about(6) : 0;
                b = about(10);
                c = about(4);
                same(run + "act", x.act(a, b, c), m.act(a, b, c));
                break;
            case 6:
                a = about(9);
                b = about(5);
                same(run + "weigh", x.weigh(a, b), m.weigh(a, b));
                break;
            case 7:
            case 8:
            case 9:
                a = upTo(10) == 0 ? about(61) : upTo(4);
                same(run + "hours", x.hours(a), m.hours(a));
                break;
            case 10:
            case 11:
                tellText();
                break;
            case 12:
            case 13:
                same(run + "undo", x.undo(), m.undo());
                break;
            case 14:
                boolean taken = upTo(2) == 0;
                same(run + "image", x.image(taken), m.image(taken));
                break;
            default:
                a = dice.nextInt();
                if (upTo(4) == 0) {
                    same(run + "state", x.state(a), m.state(a));
                }
        }
    }

    private void tellText() {
        int k = about(4);
        StringBuilder text = new StringBuilder();
        int lines = upTo(12) == 0 ? 15 + upTo(4) : upTo(6);
        for (int i = 0; i < lines; i++) {
            text.append(k == 0 ? lawLine() : rowLine(k));
        }
        if (upTo(3) == 0) {
            spoil(text, k);
        }
        if (text.length() > 400) {
            text.setLength(400);
        }
        String told = text.toString();
        calls += told.length() / 20 + 2;
        same(run + "text " + k + " '" + told + "'", Check.tell(x, k, told), m.text(k, told));
        same(run + "fault of '" + told + "'", x.fault(0), m.fault);
        same(run + "place in '" + told + "'", x.fault(1), m.place);
    }

    private void spoil(StringBuilder text, int k) {
        for (int i = 1 + upTo(2); i > 0; i--) {
            String[] words = k == 0 ? LAW_WORDS : ROW_WORDS;
            String word = upTo(5) == 0 ? String.valueOf((char) upTo(256)) : words[upTo(words.length)];
            int at = upTo(text.length() + 1);
            int till = Math.min(text.length(), at + upTo(6));
            text.replace(at, till, word);
        }
    }

    private String blank() {
        return upTo(4) == 0 ? "\n" : upTo(4) == 0 ? "  " : " ";
    }

    private String maybe() {
        return upTo(4) == 0 ? blank() : "";
    }

    private String lawLine() {
        String line = new String[] {"weep", "rate", "find"}[upTo(3)] + blank() + e();
        if (upTo(3) != 0) {
            line += blank() + "when" + blank() + b(upTo(6) == 0 ? 9 : 3);
        }
        return line + maybe() + ";" + maybe();
    }

    private String e() {
        String e = u();
        for (int i = upTo(4); i > 0; i--) {
            String sign = "+-*/".charAt(upTo(4)) + maybe();
            e += maybe() + sign + (sign.startsWith("/") ? String.valueOf(upTo(30) + (upTo(9) == 0 ? 0 : 1)) : u());
        }
        return e;
    }

    private String u() {
        return upTo(3) == 0 ? String.valueOf(upTo(3) == 0 ? upTo(10001) : upTo(30)) : NAMES[upTo(10)];
    }

    private String b(int deep) {
        String b = c(deep);
        for (int i = upTo(3); i > 0; i--) {
            b += blank() + (upTo(2) == 0 ? "and" : "or") + blank() + c(deep - 1);
        }
        return b;
    }

    private String c(int deep) {
        if (deep > 0 && upTo(3) != 0) {
            return upTo(2) == 0 ? "not " + c(deep - 1) : "(" + maybe() + (deep > 3 ? c(deep - 1) : b(deep - 1)) + ")";
        }
        return e() + maybe() + "<=>".charAt(upTo(3)) + maybe() + e();
    }

    private String rowLine(int k) {
        int people = Math.max(1, m.world.people.size());
        int guards = Math.max(1, m.world.guards.size());
        String line;
        if (k == 1) {
            line = "traveller " + about(people + 1) + blank() + "with " + about(people + 1);
        } else if (k == 2) {
            int hour = upTo(9) == 0 ? upTo(1001) : m.world.hour + upTo(4);
            String[] deeds = {"send " + upTo(people) + " to " + upTo(4), "open " + upTo(4), "close " + upTo(4),
                "move " + upTo(guards) + blank() + "to " + about(4), "joke " + upTo(people), "onion " + about(people)};
            line = "at " + hour + blank() + deeds[upTo(6)];
        } else {
            line = "road " + about(10) + " " + about(10) + " dry " + about(100) + " wet " + upTo(101);
        }
        return line.replace("-1", "1") + maybe() + ";" + maybe();
    }

    /** Asks so many things, at random; all of them if there are not so many. */
    private void compare(int most) {
        List<Runnable> asks = new ArrayList<>();
        askLooks(asks);
        askPeople(asks);
        askOfficers(asks);
        askBook(asks);
        int n = about(upTo(10) == 0 ? 61 : 10);
        for (int i = 0; i <= 4; i++) {
            int what = i;
            asks.add(() -> same(run + "goes " + n, x.goes(n, what), m.goes(n, what)));
        }
        Collections.shuffle(asks, dice);
        for (int i = 0; i < most && i < asks.size() && calls < 510; i++) {
            asks.get(i).run();
        }
    }

    private void askLooks(List<Runnable> asks) {
        Model.World w = m.world;
        int open = 0;
        for (int g = 0; g < 4; g++) {
            open |= w.open[g] ? 1 << g : 0;
        }
        int[] due = {w.people.size(), w.guards.size(), w.hour, w.treasury, w.basin, w.smuggled, open, m.outSet(),
            w.book.size(), w.state, m.law.size(), m.kin.size(), m.shifts.size(), m.roads.size(), m.undo.size(), -100000};
        for (int i = 0; i < due.length; i++) {
            int what = i;
            asks.add(() -> same(run + "look " + what, x.look(what), due[what]));
        }
    }

    private void askPeople(List<Runnable> asks) {
        Model.World w = m.world;
        for (int i = 0; i < w.people.size(); i++) {
            int t = i;
            Model.Person p = w.people.get(t);
            int[] of = {p.cause, p.grip, p.coin, p.wet, p.at, p.out, p.bond, m.kinOf(t), m.tells("weep", t, null), -2};
            for (int k = 0; k < of.length; k++) {
                int what = k;
                asks.add(() -> same(run + "of " + t + ", " + what, x.of(t, what), of[what]));
            }
            for (int k = 0; k < w.guards.size(); k++) {
                int o = k;
                Model.Guard g = w.guards.get(o);
                asks.add(() -> same(run + "rate of " + t + " by " + o, x.of(t, 10 + o), m.tells("rate", t, g)));
                asks.add(() -> same(run + "find of " + t + " by " + o, x.of(t, 20 + o), m.tells("find", t, g)));
            }
        }
    }

    private void askOfficers(List<Runnable> asks) {
        for (int i = 0; i < m.world.guards.size(); i++) {
            int o = i;
            Model.Guard g = m.world.guards.get(o);
            int[] who = {g.gate, g.nose, g.soft, g.tired, -1};
            for (int k = 0; k < who.length; k++) {
                int what = k;
                asks.add(() -> same(run + "who " + o + ", " + what, x.who(o, what), who[what]));
            }
        }
    }

    private void askBook(List<Runnable> asks) {
        List<int[]> book = m.world.book;
        for (int k = Math.max(0, book.size() - 9); k <= book.size(); k++) {
            int i = k;
            for (int j = 0; j < 4; j++) {
                int what = j;
                asks.add(() -> same(run + "book", x.book(i, what), i < book.size() ? book.get(i)[what] : -1));
            }
        }
    }
}
