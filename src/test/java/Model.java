import java.util.ArrayDeque;
import java.util.ArrayList;
import java.util.Deque;
import java.util.List;
import java.util.Map;
import java.util.function.ToIntFunction;
import java.util.regex.Matcher;
import java.util.regex.Pattern;

/** The document's hours, deeds and texts once more, in the plainest way, with all of Java: what random runs are held to. */
final class Model {
    static final class Person {
        int cause, grip, coin, wet, at = -1, out, bond;

        Person copy() {
            Person p = new Person();
            p.cause = cause;
            p.grip = grip;
            p.coin = coin;
            p.wet = wet;
            p.at = at;
            p.out = out;
            p.bond = bond;
            return p;
        }
    }

    static final class Guard {
        int gate, nose, soft, tired;

        Guard copy() {
            Guard g = new Guard();
            g.gate = gate;
            g.nose = nose;
            g.soft = soft;
            g.tired = tired;
            return g;
        }
    }

    /** Whom a line of the law is asked of. */
    record Asked(World world, Person person, Guard guard, int kinOut) {
    }

    record LawLine(String word, ToIntFunction<Asked> value, ToIntFunction<Asked> when) {
    }

    static final class World {
        int state, treasury, basin, smuggled, hour;
        boolean[] open = {true, true, true, true};
        List<Person> people = new ArrayList<>();
        List<Guard> guards = new ArrayList<>();
        List<int[]> book = new ArrayList<>();

        World copy() {
            World w = new World();
            w.state = state;
            w.treasury = treasury;
            w.basin = basin;
            w.smuggled = smuggled;
            w.hour = hour;
            w.open = open.clone();
            people.forEach(p -> w.people.add(p.copy()));
            guards.forEach(g -> w.guards.add(g.copy()));
            w.book.addAll(book);
            return w;
        }
    }

    static final class Fault extends RuntimeException {
        private static final long serialVersionUID = 1;
        final int fault;
        final int place;

        Fault(int fault, int place) {
            this.fault = fault;
            this.place = place;
        }
    }

    World world = new World();
    List<LawLine> law = List.of();
    List<int[]> kin = List.of();
    List<int[]> shifts = List.of();
    List<int[]> roads = List.of();
    Deque<World> undo = new ArrayDeque<>();
    int fault = 0;
    int place = -1;
    private Object[] image = null;

    // deeds

    boolean has(int t) {
        return t >= 0 && t < world.people.size();
    }

    boolean inside(int t) {
        return has(t) && world.people.get(t).out == 0;
    }

    boolean hasGuard(int o) {
        return o >= 0 && o < world.guards.size();
    }

    void keep() {
        undo.addLast(world.copy());
        if (undo.size() > 6) {
            undo.removeFirst();
        }
    }

    int state(int v) {
        int was = world.state;
        world.state = v;
        undo.clear();
        return was;
    }

    int traveller(int cause, int grip, int coin) {
        if (cause < 0 || cause > 5 || grip < 0 || grip > 9 || coin < 0 || coin > 9999 || world.people.size() == 12) {
            return -1;
        }
        Person p = new Person();
        p.cause = cause;
        p.grip = grip;
        p.coin = coin;
        world.people.add(p);
        undo.clear();
        return world.people.size() - 1;
    }

    int officer(int gate, int nose, int soft) {
        if (gate < 0 || gate > 3 || nose < 0 || nose > 9 || soft < 0 || soft > 9 || world.guards.size() == 6) {
            return -1;
        }
        Guard g = new Guard();
        g.gate = gate;
        g.nose = nose;
        g.soft = soft;
        world.guards.add(g);
        undo.clear();
        return world.guards.size() - 1;
    }

    boolean set(int what, int who, int v) {
        int[] most = {9999, 99, 9, 9, 9};
        if (what < 0 || what > 4 || v < 0 || v > most[what] || !(what < 3 ? has(who) : hasGuard(who))) {
            return false;
        }
        switch (what) {
            case 0 -> world.people.get(who).coin = v;
            case 1 -> world.people.get(who).wet = v;
            case 2 -> world.people.get(who).grip = v;
            case 3 -> world.guards.get(who).tired = v;
            default -> world.guards.get(who).soft = v;
        }
        undo.clear();
        return true;
    }

    boolean can(int what, int who, int v) {
        boolean gate = v >= 0 && v < 4;
        return switch (what) {
            case 0 -> inside(who) && gate;
            case 1, 2 -> inside(who);
            case 3 -> hasGuard(who) && gate;
            case 4 -> who >= 0 && who < 4 && !world.open[who];
            case 5 -> who >= 0 && who < 4 && world.open[who];
            default -> false;
        };
    }

    void perform(int what, int who, int v) {
        switch (what) {
            case 0 -> world.people.get(who).at = v;
            case 1 -> world.people.get(who).wet /= 2;
            case 2 -> world.people.get(who).wet = Math.min(99, world.people.get(who).wet + 20);
            case 3 -> world.guards.get(who).gate = v;
            case 4 -> world.open[who] = true;
            default -> world.open[who] = false;
        }
    }

    boolean act(int what, int who, int v) {
        if (!can(what, who, v)) {
            return false;
        }
        keep();
        perform(what, who, v);
        return true;
    }

    int weigh(int t, int o) {
        if (!inside(t) || !hasGuard(o)) {
            return -1;
        }
        keep();
        return weighing(t, o, false);
    }

    int weighing(int t, int o, boolean thought) {
        Person p = world.people.get(t);
        Guard g = world.guards.get(o);
        int find = tells("find", t, g);
        int rate = tells("rate", t, g);
        boolean found = find >= 500;
        if (!thought) {
            world.state = (int) (1664525L * world.state + 1013904223L);
            found = (int) ((world.state & 0xffffffffL) / 256 % 1000) < find;
        }
        int wet = p.wet;
        int charge = 0;
        if (found) {
            charge = rate * wet;
            world.basin += wet;
        } else {
            world.smuggled += wet;
        }
        int paid;
        int[] line;
        if (charge > p.coin) {
            paid = p.coin;
            p.bond = 1;
            line = new int[] {world.hour, 1, t, paid};
        } else {
            paid = charge;
            p.bond = 0;
            p.out = 1;
            p.at = -1;
            line = charge == 0 && wet > 0 ? new int[] {world.hour, 2, t, wet} : new int[] {world.hour, 0, t, paid};
        }
        p.coin -= paid;
        world.treasury += paid;
        p.wet = 0;
        g.tired = Math.min(9, g.tired + 1);
        if (!thought && world.book.size() < 150) {
            world.book.add(line);
        }
        return paid;
    }

    void hour(boolean thought) {
        for (int[] line : shifts) {
            if (line[0] == world.hour && can(line[1], line[2], line[3])) {
                perform(line[1], line[2], line[3]);
            }
        }
        boolean[] weighed = new boolean[world.people.size()];
        boolean[] busy = new boolean[world.guards.size()];
        for (int o = 0; o < world.guards.size(); o++) {
            Guard g = world.guards.get(o);
            if (g.tired >= 9 || !world.open[g.gate]) {
                continue;
            }
            for (int t = 0; t < world.people.size(); t++) {
                Person p = world.people.get(t);
                if (p.at == g.gate && p.out == 0 && !weighed[t]) {
                    weighing(t, o, thought);
                    weighed[t] = true;
                    busy[o] = true;
                    break;
                }
            }
        }
        for (int t = 0; t < world.people.size(); t++) {
            Person p = world.people.get(t);
            if (p.out == 0) {
                p.wet = Math.min(99, p.wet + tells("weep", t, null));
            }
        }
        for (int o = 0; o < world.guards.size(); o++) {
            if (!busy[o]) {
                world.guards.get(o).tired = Math.max(0, world.guards.get(o).tired - 1);
            }
        }
        world.hour++;
    }

    int outs() {
        return (int) world.people.stream().filter(p -> p.out == 1).count();
    }

    int hours(int n) {
        if (n < 1 || n > 60 || world.hour + n > 9999) {
            return -1;
        }
        int before = outs();
        for (int i = 0; i < n; i++) {
            keep();
            hour(false);
        }
        return outs() - before;
    }

    int goes(int n, int what) {
        if (n < 1 || n > 60 || what < 0 || what > 3) {
            return -1;
        }
        World real = world;
        world = world.copy();
        for (int i = 0; i < n; i++) {
            hour(true);
        }
        int[] answers = {world.treasury, outs(), world.basin,
            (int) world.people.stream().filter(p -> p.bond == 1).count()};
        world = real;
        return answers[what];
    }

    boolean undo() {
        if (undo.isEmpty()) {
            return false;
        }
        world = undo.removeLast();
        return true;
    }

    @SuppressWarnings("unchecked")
    boolean image(boolean taken) {
        if (taken) {
            image = new Object[] {world.copy(), law, kin, shifts, roads};
            return true;
        }
        if (image == null) {
            return false;
        }
        world = ((World) image[0]).copy();
        law = (List<LawLine>) image[1];
        kin = (List<int[]>) image[2];
        shifts = (List<int[]>) image[3];
        roads = (List<int[]>) image[4];
        undo.clear();
        return true;
    }

    int kinOf(int t) {
        int set = 0;
        for (int[] line : kin) {
            set |= line[0] == t ? 1 << line[1] : line[1] == t ? 1 << line[0] : 0;
        }
        return set;
    }

    int outSet() {
        int set = 0;
        for (int t = 0; t < world.people.size(); t++) {
            set |= world.people.get(t).out << t;
        }
        return set;
    }

    int tells(String word, int t, Guard g) {
        Person p = world.people.get(t);
        Asked asked = new Asked(world, p, g, Integer.bitCount(kinOf(t) & outSet()));
        int most = word.equals("find") ? 1000 : 99;
        for (LawLine line : law) {
            if (line.word.equals(word) && (line.when == null || line.when.applyAsInt(asked) == 1)) {
                return Math.max(0, Math.min(most, line.value.applyAsInt(asked)));
            }
        }
        return switch (word) {
            case "weep" -> 9 - p.grip;
            case "rate" -> p.cause + 1;
            default -> 500 + 50 * g.nose;
        };
    }

    // texts

    private static final Map<String, ToIntFunction<Asked>> NAMES = Map.of(
            "cause", a -> a.person.cause, "grip", a -> a.person.grip, "wet", a -> a.person.wet,
            "coin", a -> a.person.coin, "hour", a -> a.world.hour % 24, "gate", a -> Math.max(0, a.person.at),
            "nose", a -> a.guard == null ? 0 : a.guard.nose, "soft", a -> a.guard == null ? 0 : a.guard.soft,
            "tired", a -> a.guard == null ? 0 : a.guard.tired, "kin", a -> a.kinOut);

    private List<String> tokens;
    private List<Integer> places;
    private int at;

    int text(int k, String tape) {
        fault = 0;
        place = -1;
        if (k < 0 || k > 3) {
            return -1;
        }
        tokens = new ArrayList<>();
        places = new ArrayList<>();
        at = 0;
        Matcher m = Pattern.compile("[A-Za-z]+|[0-9]+|[^ \\n]", Pattern.DOTALL).matcher(tape);
        while (m.find()) {
            tokens.add(m.group());
            places.add(m.start());
        }
        tokens.add("");
        places.add(tape.length());
        try {
            return k == 0 ? readLaw() : readRows(k);
        } catch (Fault f) {
            fault = f.fault;
            place = f.place;
            return -1;
        }
    }

    private String token() {
        return tokens.get(at);
    }

    private boolean is(String... words) {
        return List.of(words).contains(token());
    }

    private Fault fault(int what) {
        return new Fault(what, places.get(at));
    }

    private String take(String... words) {
        if (!is(words)) {
            throw fault(1);
        }
        return tokens.get(at++);
    }

    private int number(int least, int most) {
        if (!token().matches("[0-9]{1,4}")) {
            throw fault(1);
        }
        int v = Integer.parseInt(token());
        if (v < least || v > most) {
            throw fault(2);
        }
        at++;
        return v;
    }

    private int numberBut(int most, int other) {
        if (token().matches("[0-9]{1,4}") && Integer.parseInt(token()) == other) {
            throw fault(2);
        }
        return number(0, most);
    }

    private int readRows(int k) {
        List<int[]> rows = new ArrayList<>();
        String[] first = {"", "traveller", "at", "road"};
        while (!token().isEmpty()) {
            if (is(first[k]) && rows.size() == 16) {
                throw fault(3);
            }
            take(first[k]);
            rows.add(k == 1 ? kinRow() : k == 2 ? shiftRow() : roadRow());
            take(";");
        }
        if (k == 1) {
            kin = rows;
        } else if (k == 2) {
            shifts = rows;
            undo.clear();
        } else {
            roads = rows;
        }
        return rows.size();
    }

    private int[] kinRow() {
        int a = number(0, world.people.size() - 1);
        take("with");
        return new int[] {a, numberBut(world.people.size() - 1, a)};
    }

    private int[] shiftRow() {
        int hour = number(0, 999);
        String what = take("send", "joke", "onion", "move", "open", "close");
        int people = world.people.size() - 1;
        switch (what) {
            case "send": {
                int t = number(0, people);
                take("to");
                return new int[] {hour, 0, t, number(0, 3)};
            }
            case "joke":
                return new int[] {hour, 1, number(0, people), 0};
            case "onion":
                return new int[] {hour, 2, number(0, people), 0};
            case "move": {
                int o = number(0, world.guards.size() - 1);
                take("to");
                return new int[] {hour, 3, o, number(0, 3)};
            }
            case "open":
                return new int[] {hour, 4, number(0, 3), 0};
            default:
                return new int[] {hour, 5, number(0, 3), 0};
        }
    }

    private int[] roadRow() {
        int a = number(0, 9);
        int b = numberBut(9, a);
        take("dry");
        int dry = number(0, 99);
        take("wet");
        return new int[] {a, b, dry, number(0, 99)};
    }

    private int readLaw() {
        List<LawLine> lines = new ArrayList<>();
        while (!token().isEmpty()) {
            if (is("weep", "rate", "find") && lines.size() == 16) {
                throw fault(3);
            }
            String word = take("weep", "rate", "find");
            ToIntFunction<Asked> value = e();
            ToIntFunction<Asked> when = null;
            if (is("when")) {
                at++;
                when = b(0);
            }
            take(";");
            lines.add(new LawLine(word, value, when));
        }
        law = lines;
        return lines.size();
    }

    private ToIntFunction<Asked> b(int open) {
        ToIntFunction<Asked> left = a(open);
        while (is("or")) {
            at++;
            ToIntFunction<Asked> l = left;
            ToIntFunction<Asked> r = a(open);
            left = x -> l.applyAsInt(x) == 1 || r.applyAsInt(x) == 1 ? 1 : 0;
        }
        return left;
    }

    private ToIntFunction<Asked> a(int open) {
        ToIntFunction<Asked> left = c(open);
        while (is("and")) {
            at++;
            ToIntFunction<Asked> l = left;
            ToIntFunction<Asked> r = c(open);
            left = x -> l.applyAsInt(x) == 1 && r.applyAsInt(x) == 1 ? 1 : 0;
        }
        return left;
    }

    private ToIntFunction<Asked> c(int open) {
        if (is("(", "not")) {
            if (open == 8) {
                throw fault(3);
            }
            boolean not = is("not");
            at++;
            if (not) {
                ToIntFunction<Asked> of = c(open + 1);
                return x -> of.applyAsInt(x) == 1 ? 0 : 1;
            }
            ToIntFunction<Asked> in = b(open + 1);
            take(")");
            return in;
        }
        ToIntFunction<Asked> l = e();
        String sign = take("<", "=", ">");
        ToIntFunction<Asked> r = e();
        return x -> {
            int c = Integer.compare(l.applyAsInt(x), r.applyAsInt(x));
            return (sign.equals("<") ? c < 0 : sign.equals("=") ? c == 0 : c > 0) ? 1 : 0;
        };
    }

    private ToIntFunction<Asked> e() {
        ToIntFunction<Asked> left = t();
        while (is("+", "-")) {
            boolean plus = is("+");
            at++;
            ToIntFunction<Asked> l = left;
            ToIntFunction<Asked> r = t();
            left = x -> plus ? l.applyAsInt(x) + r.applyAsInt(x) : l.applyAsInt(x) - r.applyAsInt(x);
        }
        return left;
    }

    private ToIntFunction<Asked> t() {
        ToIntFunction<Asked> left = u();
        while (is("*", "/")) {
            boolean times = is("*");
            at++;
            ToIntFunction<Asked> l = left;
            if (times) {
                ToIntFunction<Asked> r = u();
                left = x -> l.applyAsInt(x) * r.applyAsInt(x);
            } else {
                int n = number(1, 9999);
                left = x -> l.applyAsInt(x) / n;
            }
        }
        return left;
    }

    private ToIntFunction<Asked> u() {
        if (NAMES.containsKey(token())) {
            return NAMES.get(tokens.get(at++));
        }
        int n = number(0, 9999);
        return x -> n;
    }
}
