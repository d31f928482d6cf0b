/** A barrier at which tears are weighed: people are let out dry only. */
public final class TearCustoms {
    public static final int NONE = -1;

    private static final int TRAVELLERS = 12;
    private static final int OFFICERS = 6;
    private static final int GATES = 4;
    private static final int CAUSES = 6;
    private static final int LOOKS = 4;
    private static final int PLACES = 10;

    private static final int MOST_COIN = 9999;
    private static final int MOST_WET = 99;
    private static final int MOST_TIRED = 9;
    private static final int MOST_HOUR = 9999;
    private static final int MOST_HOURS = 60;
    private static final int MOST_BOOK = 150;
    private static final int MOST_LINES = 16;
    private static final int MOST_BYTES = 400;
    private static final int MOST_UNDONE = 6;

    private static final int LAW = 0;
    private static final int KIN = 1;
    private static final int SHIFTS = 2;
    private static final int ROADS = 3;

    private static final int SEND = 0;
    private static final int JOKE = 1;
    private static final int ONION = 2;
    private static final int MOVE = 3;
    private static final int OPEN = 4;
    private static final int CLOSE = 5;

    private static final int WEEP = 0;
    private static final int RATE = 1;
    private static final int FIND = 2;

    private final Land land = new Land();
    private final Log log = new Log();
    private final Reader reader = new Reader();
    private final Realm thought = new Realm();
    private final Desk desk = new Desk();
    private Land kept = null;

    public TearCustoms() {
    }

    public int state(int v) {
        int was = land.realm.draws;
        land.realm.draws = v;
        log.forget();
        return was;
    }

    public int traveller(int cause, int grip, int coin) {
        if (!within(cause, CAUSES - 1) || !within(grip, 9) || !within(coin, MOST_COIN)) {
            return NONE;
        }
        int number = land.realm.addTraveller(cause, grip, coin);
        if (number != NONE) {
            log.forget();
        }
        return number;
    }

    public int officer(int gate, int nose, int soft) {
        if (!within(gate, GATES - 1) || !within(nose, 9) || !within(soft, 9)) {
            return NONE;
        }
        int number = land.realm.addOfficer(gate, nose, soft);
        if (number != NONE) {
            log.forget();
        }
        return number;
    }

    public boolean set(int what, int who, int v) {
        boolean told = what >= 3 ? land.realm.tellOfficer(what, who, v) : land.realm.tellTraveller(what, who, v);
        if (told) {
            log.forget();
        }
        return told;
    }

    public boolean act(int what, int who, int v) {
        if (!land.realm.canDo(what, who, v)) {
            return false;
        }
        log.keep(land.realm);
        land.realm.perform(what, who, v);
        return true;
    }

    public int weigh(int traveller, int officer) {
        if (!land.realm.isInside(traveller) || !land.realm.isOfficer(officer)) {
            return NONE;
        }
        log.keep(land.realm);
        return land.weighOne(land.realm, traveller, officer, false);
    }

    public int hours(int n) {
        Realm realm = land.realm;
        if (n < 1 || n > MOST_HOURS || realm.hour + n > MOST_HOUR) {
            return NONE;
        }
        int before = Integer.bitCount(realm.out);
        for (int i = 0; i < n; i++) {
            log.keep(realm);
            land.passHour(realm, false);
        }
        return Integer.bitCount(realm.out) - before;
    }

    public int feed(int a, int b, int c, int d, int e) {
        if (reader.length + 20 > MOST_BYTES) {
            return NONE;
        }
        reader.append(a);
        reader.append(b);
        reader.append(c);
        reader.append(d);
        reader.append(e);
        return reader.length;
    }

    public boolean end(int n) {
        if (n < 0 || n > reader.length) {
            return false;
        }
        reader.length = n;
        return true;
    }

    public int text(int k) {
        boolean fine = reader.readText(k, land.realm.travellers, land.realm.officers);
        reader.length = 0;
        if (!fine) {
            return NONE;
        }
        if (k == LAW) {
            land.law.copyFrom(reader.law);
            return land.law.lines.count;
        }
        if (k == SHIFTS) {
            log.forget();
        }
        Row row = k == KIN ? land.kin : k == SHIFTS ? land.shifts : land.roads;
        row.copyFrom(reader.lines);
        return row.count;
    }

    public int fault(int what) {
        if (what == 0) {
            return reader.fault;
        }
        return what == 1 ? reader.faultPlace : NONE;
    }

    public int of(int traveller, int what) {
        Realm realm = land.realm;
        if (!realm.isTraveller(traveller)) {
            return NONE - 1;
        }
        if (what >= 20) {
            return realm.isOfficer(what - 20) ? land.tells(realm, FIND, traveller, what - 20) : NONE - 1;
        }
        if (what >= 10) {
            return realm.isOfficer(what - 10) ? land.tells(realm, RATE, traveller, what - 10) : NONE - 1;
        }
        switch (what) {
            case 0: return realm.cause[traveller];
            case 1: return realm.grip[traveller];
            case 2: return realm.coin[traveller];
            case 3: return realm.wet[traveller];
            case 4: return realm.at[traveller];
            case 5: return (realm.out >> traveller) & 1;
            case 6: return (realm.bond >> traveller) & 1;
            case 7: return land.kinOf(traveller);
            case 8: return land.tells(realm, WEEP, traveller, NONE);
            default: return NONE - 1;
        }
    }

    public int who(int officer, int what) {
        Realm realm = land.realm;
        if (!realm.isOfficer(officer)) {
            return NONE;
        }
        switch (what) {
            case 0: return realm.gate[officer];
            case 1: return realm.nose[officer];
            case 2: return realm.soft[officer];
            case 3: return realm.tired[officer];
            default: return NONE;
        }
    }

    public int book(int i, int what) {
        if (i < 0 || i >= land.realm.lines || !within(what, 3)) {
            return NONE;
        }
        return land.bookCell(i, what);
    }

    public int goes(int n, int what) {
        if (n < 1 || n > MOST_HOURS || !within(what, 3)) {
            return NONE;
        }
        thought.copyFrom(land.realm);
        for (int i = 0; i < n; i++) {
            land.passHour(thought, true);
        }
        switch (what) {
            case 0: return thought.treasury;
            case 1: return Integer.bitCount(thought.out);
            case 2: return thought.basin;
            default: return Integer.bitCount(thought.bond);
        }
    }

    public int rate(int what) {
        if (!within(what, 1)) {
            return NONE;
        }
        int best = land.realm.bestRate();
        return what == 0 ? best : land.realm.takenAt(best);
    }

    public int order(int wet, int weep, int rate) {
        if (wet == NONE) {
            return land.told.order.clear();
        }
        if (!within(wet, MOST_WET) || !within(weep, 9) || rate < 1 || rate > 9) {
            return NONE;
        }
        return land.told.order.put(wet, weep, rate, 0);
    }

    public int ordered(int what) {
        if (what == 0) {
            return desk.orderSum(land.told.order);
        }
        return what == 1 ? desk.orderFirst(land.told.order) : NONE;
    }

    public int hand(int a, int b) {
        if (a == NONE) {
            return land.told.hands.clear();
        }
        if (!within(a, 5) || !within(b, 5)) {
            return NONE;
        }
        return land.told.hands.put(a, b, 0, 0);
    }

    public int hands(int what) {
        if (!within(what, 1)) {
            return NONE;
        }
        int most = desk.mostHands(land.told.hands);
        return what == 0 ? most : desk.waysOf(most);
    }

    public int weight(int v) {
        if (v == NONE) {
            return land.told.weights.clear();
        }
        return v < 1 || v > 40 ? NONE : land.told.weights.put(v, 0, 0, 0);
    }

    public int crates(int c, int what) {
        if (c < 1 || c > 99) {
            return NONE;
        }
        if (what == 0) {
            return desk.fewestCrates(land.told.weights, c);
        }
        return what == 1 ? desk.fitOne(land.told.weights, c) : NONE;
    }

    public int bag(int v) {
        if (v == NONE) {
            land.told.weighings.clear();
            return land.told.bags.clear();
        }
        return v < 1 || v > 99 ? NONE : land.told.bags.put(v, 0, 0, 0);
    }

    public int weighed(int bags, int v) {
        if (!within(bags, (1 << land.told.bags.count) - 1) || !within(v, 9999)) {
            return NONE;
        }
        return land.told.weighings.put(bags, v, 0, 0);
    }

    public int suspects(int what) {
        if (!within(what, 1)) {
            return NONE;
        }
        int set = desk.suspectSet(land.told);
        return what == 0 ? set : desk.nextSet(set, land.told.bags.count);
    }

    public int driest(int from, int to, int w, int what) {
        if (!within(from, PLACES - 1) || !within(to, PLACES - 1) || !within(w, MOST_WET) || !within(what, 1)) {
            return NONE;
        }
        return desk.driestWay(land.roads, from, to, w, what);
    }

    public boolean count(int cause, int look, int v) {
        if (!within(cause, CAUSES - 1) || !within(look, LOOKS - 1) || !within(v, 999)) {
            return false;
        }
        land.told.counts[cause * LOOKS + look] = v;
        return true;
    }

    public int likely(int cause, int looks) {
        if (!within(looks, (1 << LOOKS) - 1)) {
            return NONE;
        }
        if (cause == NONE) {
            return desk.mostLikely(land.told.counts, looks);
        }
        return within(cause, CAUSES - 1) ? desk.ofMillion(land.told.counts, cause, looks) : NONE;
    }

    public int salt(int v) {
        if (v == NONE) {
            return land.told.prices.clear();
        }
        return within(v, 99) ? land.told.prices.put(v, 0, 0, 0) : NONE;
    }

    public int won(int k) {
        return k < 1 || k > 3 ? NONE : desk.mostWon(land.told.prices, k);
    }

    public boolean ledger(int k, int v) {
        if (!within(k, 23) || !within(v, k < 16 ? 99 : 999)) {
            return false;
        }
        land.told.ledger[k] = v;
        return true;
    }

    public int altered(int what) {
        int none = NONE - 9999;
        if (!within(what, 1)) {
            return none;
        }
        int row = land.told.wrongLine(16, 4, 1);
        int column = land.told.wrongLine(20, 1, 4);
        if (row == NONE || column == NONE) {
            return none;
        }
        int above = land.told.aboveSum(16, row, 4, 1);
        if (above != land.told.aboveSum(20, column, 1, 4)) {
            return none;
        }
        return what == 0 ? row * 4 + column : above;
    }

    public boolean years(int n, int bits) {
        if (n < 1 || n > 30 || !within(bits, (1 << n) - 1)) {
            return false;
        }
        land.told.years = n;
        land.told.wept = bits;
        return true;
    }

    public int dry(int what) {
        if (!within(what, 1)) {
            return NONE;
        }
        int longest = land.told.longestDry();
        return what == 0 ? longest : land.told.dryBegin(longest);
    }

    public int votes(int gate, int what) {
        if (!within(gate, GATES - 1) || !within(what, 1)) {
            return NONE;
        }
        return what == 0 ? land.realm.votesOf(1 << gate) : land.realm.weighsOf(gate);
    }

    public int game(int what) {
        if (!within(what, 1)) {
            return NONE;
        }
        int officer = land.realm.gameOfficer();
        return what == 0 || officer == NONE ? officer : land.realm.fewestJokes(officer);
    }

    public boolean undo() {
        return log.giveBack(land.realm);
    }

    public boolean image(boolean taken) {
        if (taken) {
            if (kept == null) {
                kept = new Land();
            }
            kept.copyFrom(land);
            return true;
        }
        if (kept == null) {
            return false;
        }
        land.copyFrom(kept);
        log.forget();
        return true;
    }

    public int look(int what) {
        Realm realm = land.realm;
        switch (what) {
            case 0: return realm.travellers;
            case 1: return realm.officers;
            case 2: return realm.hour;
            case 3: return realm.treasury;
            case 4: return realm.basin;
            case 5: return realm.smuggled;
            case 6: return realm.open;
            case 7: return realm.out;
            case 8: return realm.lines;
            case 9: return realm.draws;
            case 10: return land.law.lines.count;
            case 11: return land.kin.count;
            case 12: return land.shifts.count;
            case 13: return land.roads.count;
            case 14: return log.count;
            default: return NONE - 99999;
        }
    }

    private static boolean within(int v, int most) {
        return v >= 0 && v <= most;
    }

    private static int held(int v, int most) {
        return v < 0 ? 0 : Math.min(v, most);
    }

    /** Lines of up to four numbers each, and no more of them than there is room for. */
    private static final class Row {
        final int width;
        final int[] cells;
        int count = 0;

        Row(int width, int most) {
            this.width = width;
            this.cells = new int[width > 0 && most > 0 ? width * most : 0];
        }

        int clear() {
            count = 0;
            return 0;
        }

        /** How many lines there are then; NONE if there is no room. What is beyond the width is let fall. */
        int put(int a, int b, int c, int d) {
            int from = count * width;
            if (from + width > cells.length) {
                return NONE;
            }
            for (int i = 0; i < width; i++) {
                cells[from + i] = i == 0 ? a : i == 1 ? b : i == 2 ? c : d;
            }
            count++;
            return count;
        }

        int get(int line, int cell) {
            if (line < 0 || line >= count || cell < 0 || cell >= width) {
                return NONE;
            }
            return cells[line * width + cell];
        }

        void copyFrom(Row other) {
            count = other.count;
            System.arraycopy(other.cells, 0, cells, 0, Math.min(cells.length, other.cells.length));
        }
    }

    /** All that an hour, or a deed by hand, can change: what undo brings back. */
    private static final class Realm {
        int draws = 0;
        int travellers = 0;
        final int[] cause = new int[TRAVELLERS];
        final int[] grip = new int[TRAVELLERS];
        final int[] coin = new int[TRAVELLERS];
        final int[] wet = new int[TRAVELLERS];
        final int[] at = new int[TRAVELLERS];
        int out = 0;
        int bond = 0;
        int officers = 0;
        final int[] gate = new int[OFFICERS];
        final int[] nose = new int[OFFICERS];
        final int[] soft = new int[OFFICERS];
        final int[] tired = new int[OFFICERS];
        int open = (1 << GATES) - 1;
        int treasury = 0;
        int basin = 0;
        int smuggled = 0;
        int hour = 0;
        // Lines of the book are only ever added, so going back needs their number alone.
        int lines = 0;

        void copyFrom(Realm other) {
            draws = other.draws;
            travellers = other.travellers;
            System.arraycopy(other.cause, 0, cause, 0, TRAVELLERS);
            System.arraycopy(other.grip, 0, grip, 0, TRAVELLERS);
            System.arraycopy(other.coin, 0, coin, 0, TRAVELLERS);
            System.arraycopy(other.wet, 0, wet, 0, TRAVELLERS);
            System.arraycopy(other.at, 0, at, 0, TRAVELLERS);
            out = other.out;
            bond = other.bond;
            officers = other.officers;
            System.arraycopy(other.gate, 0, gate, 0, OFFICERS);
            System.arraycopy(other.nose, 0, nose, 0, OFFICERS);
            System.arraycopy(other.soft, 0, soft, 0, OFFICERS);
            System.arraycopy(other.tired, 0, tired, 0, OFFICERS);
            open = other.open;
            treasury = other.treasury;
            basin = other.basin;
            smuggled = other.smuggled;
            hour = other.hour;
            lines = other.lines;
        }

        boolean isTraveller(int t) {
            return t >= 0 && t < travellers;
        }

        boolean isInside(int t) {
            return isTraveller(t) && ((out >> t) & 1) == 0;
        }

        boolean isOfficer(int o) {
            return o >= 0 && o < officers;
        }

        boolean isOpen(int g) {
            return ((open >> g) & 1) == 1;
        }

        int addTraveller(int itsCause, int itsGrip, int itsCoin) {
            if (travellers >= TRAVELLERS) {
                return NONE;
            }
            cause[travellers] = itsCause;
            grip[travellers] = itsGrip;
            coin[travellers] = itsCoin;
            wet[travellers] = 0;
            at[travellers] = NONE;
            travellers++;
            return travellers - 1;
        }

        int addOfficer(int itsGate, int itsNose, int itsSoft) {
            if (officers >= OFFICERS) {
                return NONE;
            }
            gate[officers] = itsGate;
            nose[officers] = itsNose;
            soft[officers] = itsSoft;
            tired[officers] = 0;
            officers++;
            return officers - 1;
        }

        boolean tellTraveller(int what, int t, int v) {
            int most = what == 0 ? MOST_COIN : what == 1 ? MOST_WET : what == 2 ? 9 : NONE;
            if (!isTraveller(t) || !within(v, most)) {
                return false;
            }
            int[] row = what == 0 ? coin : what == 1 ? wet : grip;
            row[t] = v;
            return true;
        }

        boolean tellOfficer(int what, int o, int v) {
            int most = what == 3 ? MOST_TIRED : what == 4 ? 9 : NONE;
            if (!isOfficer(o) || !within(v, most)) {
                return false;
            }
            int[] row = what == 3 ? tired : soft;
            row[o] = v;
            return true;
        }

        boolean canDo(int what, int who, int v) {
            switch (what) {
                case SEND: return isInside(who) && within(v, GATES - 1);
                case JOKE: return isInside(who);
                case ONION: return isInside(who);
                case MOVE: return isOfficer(who) && within(v, GATES - 1);
                case OPEN: return within(who, GATES - 1) && !isOpen(who);
                case CLOSE: return within(who, GATES - 1) && isOpen(who);
                default: return false;
            }
        }

        /** Only what canDo allows is done. */
        void perform(int what, int who, int v) {
            if (!canDo(what, who, v)) {
                return;
            }
            if (what == SEND) {
                at[who] = v;
            } else if (what == JOKE) {
                wet[who] = wet[who] / 2;
            } else if (what == ONION) {
                wet[who] = Math.min(MOST_WET, wet[who] + 20);
            } else if (what == MOVE) {
                gate[who] = v;
            } else {
                open ^= 1 << who;
            }
        }

        int draw(int m) {
            draws = draws * 1664525 + 1013904223;
            return m > 0 ? (draws >>> 8) % m : 0;
        }

        /** The first one who waits at a gate, but for a set of some; NONE without one. */
        int firstAt(int g, int butFor) {
            for (int t = 0; t < travellers; t++) {
                if (at[t] == g && ((out | butFor) >> t & 1) == 0) {
                    return t;
                }
            }
            return NONE;
        }

        void rest(int busy) {
            for (int o = 0; o < officers; o++) {
                if (((busy >> o) & 1) == 0 && tired[o] > 0) {
                    tired[o]--;
                }
            }
        }

        int takenAt(int rate) {
            int sum = 0;
            for (int t = 0; t < travellers; t++) {
                if (isInside(t) && coin[t] >= rate * wet[t]) {
                    sum += rate * wet[t];
                }
            }
            return sum;
        }

        int bestRate() {
            int best = 0;
            int most = 0;
            for (int r = 1; r <= 99; r++) {
                int sum = takenAt(r);
                if (sum > most) {
                    most = sum;
                    best = r;
                }
            }
            return best;
        }

        int votesOf(int gates) {
            int sum = 0;
            for (int o = 0; o < officers; o++) {
                if (((gates >> gate[o]) & 1) == 1) {
                    sum += soft[o] + 1;
                }
            }
            return sum;
        }

        int weighsOf(int g) {
            int all = votesOf((1 << GATES) - 1);
            int turned = 0;
            for (int set = 0; set < 1 << GATES; set++) {
                boolean without = ((set >> g) & 1) == 0;
                if (without && 2 * votesOf(set) <= all && 2 * votesOf(set | 1 << g) > all) {
                    turned++;
                }
            }
            return turned;
        }

        // Off a heap from which 1 .. SOFT + 1 may go, only the rest by SOFT + 2 counts.
        int heap(int o, int off) {
            return (tired[o] - off) % (soft[o] + 2);
        }

        int gameOfficer() {
            for (int o = 0; o < officers; o++) {
                if (fewestJokes(o) != NONE) {
                    return o;
                }
            }
            return NONE;
        }

        /** How few jokes off this officer leave the other one lost; NONE if none do. */
        int fewestJokes(int o) {
            if (!isOfficer(o)) {
                return NONE;
            }
            int others = 0;
            for (int i = 0; i < officers; i++) {
                others ^= i == o ? 0 : heap(i, 0);
            }
            for (int off = 1; off <= soft[o] + 1 && off <= tired[o]; off++) {
                if (heap(o, off) == others) {
                    return off;
                }
            }
            return NONE;
        }
    }

    /** THE LAW, its lines written with each sign behind what it joins. */
    private static final class Law {
        // A code of 0 and more is a number; one of -1 .. -10 asks for one of these.
        static final int CAUSE = 0;
        static final int GRIP = 1;
        static final int WET = 2;
        static final int COIN = 3;
        static final int HOUR = 4;
        static final int GATE = 5;
        static final int NOSE = 6;
        static final int SOFT = 7;
        static final int TIRED = 8;
        static final int KIN_OUT = 9;
        static final int ASKED = 10;

        static final int PLUS = -11;
        static final int MINUS = -12;
        static final int TIMES = -13;
        static final int PARTS = -14;
        static final int BELOW = -15;
        static final int ALIKE = -16;
        static final int ABOVE = -17;
        static final int AND = -18;
        static final int OR = -19;
        static final int NOT = -20;

        // A line: its word, where its E begins, where its B begins, where that ends.
        final Row lines = new Row(4, MOST_LINES);
        final int[] code = new int[MOST_BYTES];
        int used = 0;
        final int[] asked = new int[ASKED];
        // Two open joints each for eight open ( and the outermost, and four for a comparison: 22 at most.
        final int[] stack = new int[32];

        void clear() {
            lines.clear();
            used = 0;
        }

        void write(int sign) {
            if (used < code.length) {
                code[used] = sign;
                used++;
            }
        }

        void copyFrom(Law other) {
            lines.copyFrom(other.lines);
            System.arraycopy(other.code, 0, code, 0, MOST_BYTES);
            used = other.used;
        }

        /** Of whom is asked; officer NONE: nobody weighs. */
        void ask(Realm realm, int t, int o, int kinOut) {
            if (!realm.isTraveller(t)) {
                return;
            }
            boolean weighs = realm.isOfficer(o);
            asked[CAUSE] = realm.cause[t];
            asked[GRIP] = realm.grip[t];
            asked[WET] = realm.wet[t];
            asked[COIN] = realm.coin[t];
            asked[HOUR] = realm.hour % 24;
            asked[GATE] = Math.max(0, realm.at[t]);
            asked[NOSE] = weighs ? realm.nose[o] : 0;
            asked[SOFT] = weighs ? realm.soft[o] : 0;
            asked[TIRED] = weighs ? realm.tired[o] : 0;
            asked[KIN_OUT] = kinOut;
        }

        int tells(int word) {
            for (int i = 0; i < lines.count; i++) {
                int when = lines.get(i, 2);
                int till = lines.get(i, 3);
                if (lines.get(i, 0) == word && (when == till || reckon(when, till) != 0)) {
                    return held(reckon(lines.get(i, 1), when), word == FIND ? 1000 : 99);
                }
            }
            if (word == WEEP) {
                return 9 - asked[GRIP];
            }
            return word == RATE ? asked[CAUSE] + 1 : 500 + 50 * asked[NOSE];
        }

        int reckon(int from, int till) {
            int top = 0;
            for (int i = Math.max(0, from); i < till && i < used; i++) {
                int sign = code[i];
                if (sign >= -ASKED) {
                    if (top < stack.length) {
                        stack[top] = sign >= 0 ? sign : asked[-1 - sign];
                        top++;
                    }
                } else if (sign == NOT) {
                    if (top > 0) {
                        stack[top - 1] = 1 - stack[top - 1];
                    }
                } else if (top > 1) {
                    top--;
                    stack[top - 1] = joined(sign, stack[top - 1], stack[top]);
                }
            }
            return top > 0 ? stack[top - 1] : 0;
        }

        static int joined(int sign, int a, int b) {
            switch (sign) {
                case PLUS: return a + b;
                case MINUS: return a - b;
                case TIMES: return a * b;
                case PARTS: return b == 0 ? 0 : a / b;
                case BELOW: return a < b ? 1 : 0;
                case ALIKE: return a == b ? 1 : 0;
                case ABOVE: return a > b ? 1 : 0;
                case AND: return a & b;
                case OR: return a | b;
                default: return 0;
            }
        }
    }

    /** The TAPE, and what it is read to: drafts, so that a fault leaves the text as it was. */
    private static final class Reader {
        // A token of 0 .. 9999 is a NUMBER.
        static final int END = -1;
        static final int UNKNOWN = -2;
        static final int SIGN = 10000;
        static final int WORD = 20000;

        // A word's token is WORD and how many stand before it here. The first three stand as WEEP .. FIND, the next ten
        // as CAUSE .. KIN_OUT, the next six as SEND .. CLOSE are numbered.
        static final String WORDS = "weep rate find cause grip wet coin hour gate nose soft tired kin send joke onion move open close when or and not traveller with at to road dry ";
        static final int FIRST_ASKED = WORD + 3;
        static final int WET = WORD + 5;
        static final int FIRST_DEED = WORD + 13;
        static final int LAST_DEED = WORD + 18;
        static final int WHEN = WORD + 19;
        static final int OR = WORD + 20;
        static final int AND = WORD + 21;
        static final int NOT = WORD + 22;
        static final int TRAVELLER = WORD + 23;
        static final int WITH = WORD + 24;
        static final int AT = WORD + 25;
        static final int TO = WORD + 26;
        static final int ROAD = WORD + 27;
        static final int DRY = WORD + 28;

        static final int MOST_OPEN = 8;

        final int[] tape = new int[MOST_BYTES];
        int length = 0;
        int fault = 0;
        int faultPlace = NONE;
        final Law law = new Law();
        final Row lines = new Row(4, MOST_LINES);
        // Each byte a token, and the end.
        final int[] tokens = new int[MOST_BYTES + 1];
        final int[] places = new int[MOST_BYTES + 1];
        int at = 0;
        int token = END;
        int number = 0;

        void append(int four) {
            for (int shift = 24; shift >= 0; shift -= 8) {
                if (length < tape.length) {
                    tape[length] = (four >> shift) & 255;
                    length++;
                }
            }
        }

        boolean readText(int k, int travellers, int officers) {
            fault = 0;
            faultPlace = NONE;
            if (k < LAW || k > ROADS) {
                return false;
            }
            scan();
            law.clear();
            lines.clear();
            for (int i = 0; i <= MOST_LINES; i++) {
                if (token == END) {
                    return true;
                }
                boolean fine = k == LAW ? lawLine() : k == KIN ? kinLine(travellers)
                        : k == SHIFTS ? shiftLine(travellers, officers) : roadLine();
                if (!fine) {
                    return false;
                }
            }
            return false;
        }

        void scan() {
            int count = 0;
            int from = 0;
            while (from < length && count < MOST_BYTES) {
                int c = tape[from];
                int till = from + 1;
                if (c != 32 && c != 10) {
                    boolean word = isLetter(c);
                    boolean digits = isDigit(c);
                    while (till < length && (word && isLetter(tape[till]) || digits && isDigit(tape[till]))) {
                        till++;
                    }
                    tokens[count] = word ? wordOf(from, till) : digits ? numberOf(from, till) : SIGN + c;
                    places[count] = from;
                    count++;
                }
                from = till;
            }
            tokens[count] = END;
            places[count] = length;
            at = 0;
            token = tokens[0];
        }

        static boolean isLetter(int c) {
            return c >= 'a' && c <= 'z' || c >= 'A' && c <= 'Z';
        }

        static boolean isDigit(int c) {
            return c >= '0' && c <= '9';
        }

        int wordOf(int from, int till) {
            int before = 0;
            int next = from;
            boolean same = true;
            for (int i = 0; i < WORDS.length(); i++) {
                char c = WORDS.charAt(i);
                if (c != ' ') {
                    same = same && next < till && next < tape.length && tape[next] == c;
                    next++;
                } else if (same && next == till) {
                    return WORD + before;
                } else {
                    before++;
                    next = from;
                    same = true;
                }
            }
            return UNKNOWN;
        }

        int numberOf(int from, int till) {
            if (till - from > 4) {
                return UNKNOWN;
            }
            int sum = 0;
            for (int i = from; i < till && i < tape.length; i++) {
                sum = sum * 10 + tape[i] - '0';
            }
            return sum;
        }

        boolean fail(int what) {
            fault = what;
            faultPlace = at < places.length ? places[at] : length;
            return false;
        }

        // Behind the end there is nothing.
        void advance() {
            if (token != END && at + 1 < tokens.length) {
                at++;
                token = tokens[at];
            }
        }

        boolean pass(int due) {
            if (token != due) {
                return fail(1);
            }
            advance();
            return true;
        }

        boolean isNumber() {
            return token >= 0 && token <= 9999;
        }

        /** A NUMBER of 0 .. below - 1 that is not one other. */
        boolean passNumber(int below, int other) {
            if (!isNumber()) {
                return fail(1);
            }
            if (token >= below || token == other) {
                return fail(2);
            }
            number = token;
            advance();
            return true;
        }

        boolean begin(int word, int linesBefore) {
            if (token != word) {
                return fail(1);
            }
            if (linesBefore >= MOST_LINES) {
                return fail(3);
            }
            advance();
            return true;
        }

        boolean lawLine() {
            int word = token - WORD;
            if (word < WEEP || word > FIND) {
                return fail(1);
            }
            if (!begin(token, law.lines.count)) {
                return false;
            }
            int from = law.used;
            if (!sum()) {
                return false;
            }
            int when = law.used;
            if (token == WHEN) {
                advance();
                if (!choice(0)) {
                    return false;
                }
            }
            law.lines.put(word, from, when, law.used);
            return pass(SIGN + ';');
        }

        boolean kinLine(int travellers) {
            if (!begin(TRAVELLER, lines.count) || !passNumber(travellers, NONE)) {
                return false;
            }
            int one = number;
            if (!pass(WITH) || !passNumber(travellers, one)) {
                return false;
            }
            lines.put(one, number, 0, 0);
            return pass(SIGN + ';');
        }

        boolean shiftLine(int travellers, int officers) {
            if (!begin(AT, lines.count) || !passNumber(1000, NONE)) {
                return false;
            }
            int hour = number;
            if (token < FIRST_DEED || token > LAST_DEED) {
                return fail(1);
            }
            int what = token - FIRST_DEED;
            advance();
            int below = what == MOVE ? officers : what == OPEN || what == CLOSE ? GATES : travellers;
            if (!passNumber(below, NONE)) {
                return false;
            }
            int who = number;
            if ((what == SEND || what == MOVE) && (!pass(TO) || !passNumber(GATES, NONE))) {
                return false;
            }
            lines.put(hour, what, who, number);
            return pass(SIGN + ';');
        }

        boolean roadLine() {
            if (!begin(ROAD, lines.count) || !passNumber(PLACES, NONE)) {
                return false;
            }
            int from = number;
            if (!passNumber(PLACES, from)) {
                return false;
            }
            int to = number;
            if (!pass(DRY) || !passNumber(MOST_WET + 1, NONE)) {
                return false;
            }
            int dry = number;
            if (!pass(WET) || !passNumber(MOST_WET + 1, NONE)) {
                return false;
            }
            lines.put(from, to, dry, number);
            return pass(SIGN + ';');
        }

        /** B: an and is written at once, an or waits for the ands behind it. */
        boolean choice(int open) {
            boolean and = false;
            boolean or = false;
            for (int i = 0; i <= MOST_BYTES; i++) {
                if (!single(open)) {
                    return false;
                }
                if (and) {
                    law.write(Law.AND);
                }
                and = token == AND;
                if (!and) {
                    if (or) {
                        law.write(Law.OR);
                    }
                    or = token == OR;
                    if (!or) {
                        return true;
                    }
                }
                advance();
            }
            return false;
        }

        /** C, within so many open ( and nots. */
        boolean single(int open) {
            boolean not = token == NOT;
            if (not || token == SIGN + '(') {
                if (open >= MOST_OPEN) {
                    return fail(3);
                }
                advance();
                if (!not) {
                    return choice(open + 1) && pass(SIGN + ')');
                }
                if (!single(open + 1)) {
                    return false;
                }
                law.write(Law.NOT);
                return true;
            }
            if (!sum()) {
                return false;
            }
            int sign = token == SIGN + '<' ? Law.BELOW : token == SIGN + '=' ? Law.ALIKE : Law.ABOVE;
            if (sign == Law.ABOVE && token != SIGN + '>') {
                return fail(1);
            }
            advance();
            if (!sum()) {
                return false;
            }
            law.write(sign);
            return true;
        }

        /** E: a + or - waits for the * and / behind it. */
        boolean sum() {
            int waiting = 0;
            if (!unit()) {
                return false;
            }
            for (int i = 0; i <= MOST_BYTES; i++) {
                int sign = token - SIGN;
                boolean product = sign == '*' || sign == '/';
                if (!product && waiting != 0) {
                    law.write(waiting);
                }
                if (!product && sign != '+' && sign != '-') {
                    return true;
                }
                advance();
                if (!(sign == '/' ? divisor() : unit())) {
                    return false;
                }
                if (product) {
                    law.write(sign == '*' ? Law.TIMES : Law.PARTS);
                } else {
                    waiting = sign == '+' ? Law.PLUS : Law.MINUS;
                }
            }
            return false;
        }

        boolean divisor() {
            if (!isNumber()) {
                return fail(1);
            }
            if (token == 0) {
                return fail(2);
            }
            law.write(token);
            advance();
            return true;
        }

        boolean unit() {
            int asked = token - FIRST_ASKED;
            if (!isNumber() && !within(asked, Law.ASKED - 1)) {
                return fail(1);
            }
            law.write(isNumber() ? token : -1 - asked);
            advance();
            return true;
        }
    }

    /** What is told for thought. */
    private static final class Told {
        final Row order = new Row(3, 8);
        final Row hands = new Row(2, 16);
        final Row weights = new Row(1, 8);
        final Row bags = new Row(1, 10);
        final Row weighings = new Row(2, 6);
        final Row prices = new Row(1, 12);
        final int[] counts = new int[CAUSES * LOOKS];
        // Sixteen numbers, four sums of rows, four of columns.
        final int[] ledger = new int[24];
        int years = 0;
        int wept = 0;

        void copyFrom(Told other) {
            order.copyFrom(other.order);
            hands.copyFrom(other.hands);
            weights.copyFrom(other.weights);
            bags.copyFrom(other.bags);
            weighings.copyFrom(other.weighings);
            prices.copyFrom(other.prices);
            System.arraycopy(other.counts, 0, counts, 0, CAUSES * LOOKS);
            System.arraycopy(other.ledger, 0, ledger, 0, 24);
            years = other.years;
            wept = other.wept;
        }

        /** By how much the numbers of a line are above its told sum; lines are so far apart, numbers so far. */
        int aboveSum(int sums, int line, int lineStep, int step) {
            int above = line >= 0 && line < 4 ? -ledger[sums + line] : 0;
            for (int i = 0; i < 4; i++) {
                int k = line * lineStep + i * step;
                above += within(k, 15) ? ledger[k] : 0;
            }
            return above;
        }

        /** The one line that is wrong; NONE if there is none, or another one. */
        int wrongLine(int sums, int lineStep, int step) {
            int wrong = NONE;
            for (int line = 0; line < 4; line++) {
                if (aboveSum(sums, line, lineStep, step) != 0) {
                    if (wrong != NONE) {
                        return NONE;
                    }
                    wrong = line;
                }
            }
            return wrong;
        }

        int longestDry() {
            int longest = 0;
            int run = 0;
            for (int i = 0; i < years; i++) {
                run = ((wept >> i) & 1) == 0 ? run + 1 : 0;
                longest = Math.max(longest, run);
            }
            return longest;
        }

        int dryBegin(int longest) {
            int run = 0;
            for (int i = 0; i < years; i++) {
                run = ((wept >> i) & 1) == 0 ? run + 1 : 0;
                if (run > 0 && run == longest) {
                    return i - run + 1;
                }
            }
            return NONE;
        }
    }

    /** All that is and was told but the TAPE: what THE IMAGE holds. */
    private static final class Land {
        final Realm realm = new Realm();
        final int[] book = new int[MOST_BOOK * 4];
        final Law law = new Law();
        final Row kin = new Row(4, MOST_LINES);
        final Row shifts = new Row(4, MOST_LINES);
        final Row roads = new Row(4, MOST_LINES);
        final Told told = new Told();

        void copyFrom(Land other) {
            realm.copyFrom(other.realm);
            System.arraycopy(other.book, 0, book, 0, MOST_BOOK * 4);
            law.copyFrom(other.law);
            kin.copyFrom(other.kin);
            shifts.copyFrom(other.shifts);
            roads.copyFrom(other.roads);
            told.copyFrom(other.told);
        }

        int bookCell(int line, int cell) {
            int k = line * 4 + cell;
            return within(k, book.length - 1) ? book[k] : NONE;
        }

        int kinOf(int t) {
            int set = 0;
            for (int i = 0; i < kin.count; i++) {
                if (kin.get(i, 0) == t) {
                    set |= 1 << kin.get(i, 1);
                } else if (kin.get(i, 1) == t) {
                    set |= 1 << kin.get(i, 0);
                }
            }
            return set;
        }

        int tells(Realm r, int word, int t, int o) {
            law.ask(r, t, o, Integer.bitCount(kinOf(t) & r.out));
            return law.tells(word);
        }

        /** What is paid. In thought nothing is drawn, and nothing written in the book. */
        int weighOne(Realm r, int t, int o, boolean inThought) {
            if (!r.isInside(t) || !r.isOfficer(o)) {
                return NONE;
            }
            int find = tells(r, FIND, t, o);
            int rate = tells(r, RATE, t, o);
            int wet = r.wet[t];
            boolean found = inThought ? find >= 500 : r.draw(1000) < find;
            int charge = found ? rate * wet : 0;
            if (found) {
                r.basin += wet;
            } else {
                r.smuggled += wet;
            }
            boolean bonded = charge > r.coin[t];
            int paid = bonded ? r.coin[t] : charge;
            r.coin[t] -= paid;
            r.treasury += paid;
            if (bonded) {
                r.bond |= 1 << t;
            } else {
                r.bond &= ~(1 << t);
                r.out |= 1 << t;
                r.at[t] = NONE;
            }
            r.wet[t] = 0;
            r.tired[o] = Math.min(MOST_TIRED, r.tired[o] + 1);
            if (!inThought) {
                boolean uncharged = !bonded && charge == 0 && wet > 0;
                writeBook(r, bonded ? 1 : uncharged ? 2 : 0, t, uncharged ? wet : paid);
            }
            return paid;
        }

        void writeBook(Realm r, int what, int t, int much) {
            int from = r.lines * 4;
            if (from < 0 || from + 4 > book.length) {
                return;
            }
            book[from] = r.hour;
            book[from + 1] = what;
            book[from + 2] = t;
            book[from + 3] = much;
            r.lines++;
        }

        void passHour(Realm r, boolean inThought) {
            for (int i = 0; i < shifts.count; i++) {
                if (shifts.get(i, 0) == r.hour) {
                    r.perform(shifts.get(i, 1), shifts.get(i, 2), shifts.get(i, 3));
                }
            }
            int weighed = 0;
            int busy = 0;
            for (int o = 0; o < r.officers; o++) {
                boolean works = r.tired[o] < MOST_TIRED && r.isOpen(r.gate[o]);
                int t = works ? r.firstAt(r.gate[o], weighed) : NONE;
                if (t != NONE) {
                    weighOne(r, t, o, inThought);
                    weighed |= 1 << t;
                    busy |= 1 << o;
                }
            }
            for (int t = 0; t < r.travellers; t++) {
                if (r.isInside(t)) {
                    r.wet[t] = Math.min(MOST_WET, r.wet[t] + tells(r, WEEP, t, NONE));
                }
            }
            r.rest(busy);
            r.hour++;
        }
    }

    /** The latest realms that can be gone back to, in a ring. */
    private static final class Log {
        final Realm[] kept = new Realm[MOST_UNDONE];
        int next = 0;
        int count = 0;

        Log() {
            for (int i = 0; i < MOST_UNDONE; i++) {
                kept[i] = new Realm();
            }
        }

        void forget() {
            count = 0;
        }

        void keep(Realm realm) {
            Realm slot = kept[next];
            if (slot != null) {
                slot.copyFrom(realm);
            }
            next = (next + 1) % MOST_UNDONE;
            count = Math.min(MOST_UNDONE, count + 1);
        }

        boolean giveBack(Realm realm) {
            if (count == 0) {
                return false;
            }
            next = (next + MOST_UNDONE - 1) % MOST_UNDONE;
            count--;
            Realm slot = kept[next];
            if (slot != null) {
                realm.copyFrom(slot);
            }
            return true;
        }
    }

    /** Thoughts over what is told for them, with rows that are used again. */
    private static final class Desk {
        static final int MOST_ROADS = 12;
        // Above all that the least is sought of.
        static final int BEYOND = 1000000;

        final int[] ways = new int[64];
        final int[] packed = new int[256];
        final int[] bought = new int[4];
        final int[] sold = new int[4];
        int[] least = new int[PLACES];
        int[] later = new int[PLACES];

        int hourly(Row order, int i) {
            return order.get(i, 1) * order.get(i, 2);
        }

        // Each hour of waiting costs rate times weep, so the dearest go first; of the same the lesser number.
        int turnOf(Row order, int one) {
            int ahead = 0;
            for (int i = 0; i < order.count; i++) {
                int more = hourly(order, i) - hourly(order, one);
                if (more > 0 || more == 0 && i < one) {
                    ahead++;
                }
            }
            return ahead;
        }

        int orderSum(Row order) {
            int sum = 0;
            for (int i = 0; i < order.count; i++) {
                sum += order.get(i, 0) * order.get(i, 2) + turnOf(order, i) * hourly(order, i);
            }
            return sum;
        }

        int orderFirst(Row order) {
            for (int i = 0; i < order.count; i++) {
                if (turnOf(order, i) == 0) {
                    return i;
                }
            }
            return NONE;
        }

        /** The most hands; ways holds then in how many ways each set of grown ones is taken. */
        int mostHands(Row hands) {
            for (int set = 0; set < ways.length; set++) {
                ways[set] = set == 0 ? 1 : 0;
            }
            for (int child = 0; child < 6; child++) {
                takeHands(handsOf(hands, child));
            }
            int most = 0;
            for (int set = 0; set < ways.length; set++) {
                if (ways[set] > 0) {
                    most = Math.max(most, Integer.bitCount(set));
                }
            }
            return most;
        }

        int handsOf(Row hands, int child) {
            int set = 0;
            for (int i = 0; i < hands.count; i++) {
                if (hands.get(i, 0) == child) {
                    set |= 1 << hands.get(i, 1);
                }
            }
            return set;
        }

        // From the greatest set down, so that no set is seen with this child in it already.
        void takeHands(int able) {
            for (int set = ways.length - 1; set >= 0; set--) {
                for (int b = 0; b < 6; b++) {
                    int more = set | 1 << b;
                    if (((able >> b) & 1) == 1 && more != set && more < ways.length) {
                        ways[more] += ways[set];
                    }
                }
            }
        }

        int waysOf(int most) {
            int sum = 0;
            for (int set = 0; set < ways.length; set++) {
                if (Integer.bitCount(set) == most) {
                    sum += ways[set];
                }
            }
            return sum;
        }

        /** For each set of weights the fewest full crates and, with them, the least in the one begun last. */
        int fewestCrates(Row weights, int c) {
            int all = (1 << weights.count) - 1;
            for (int i = 0; i < weights.count; i++) {
                if (weights.get(i, 0) > c) {
                    return NONE;
                }
            }
            // A crate counts 100; none at first is one that is full.
            packed[0] = c;
            for (int set = 1; set <= all && set < packed.length; set++) {
                packed[set] = BEYOND;
                for (int i = 0; i < weights.count; i++) {
                    if (((set >> i) & 1) == 1) {
                        int before = packed[set ^ 1 << i];
                        packed[set] = Math.min(packed[set], withOne(before, weights.get(i, 0), c));
                    }
                }
            }
            return within(all, packed.length - 1) ? packed[all] / 100 : NONE;
        }

        static int withOne(int before, int weight, int c) {
            boolean fits = before % 100 + weight <= c;
            return fits ? before + weight : before / 100 * 100 + 100 + weight;
        }

        /** The lightest ones go in as long as they fit. */
        int fitOne(Row weights, int c) {
            int room = c;
            int fit = 0;
            for (int v = 1; v <= 40; v++) {
                for (int i = 0; i < weights.count; i++) {
                    if (weights.get(i, 0) == v && v <= room) {
                        room -= v;
                        fit++;
                    }
                }
            }
            return fit;
        }

        int suspectSet(Told told) {
            int set = 0;
            for (int bag = 0; bag < told.bags.count; bag++) {
                if (isAllowed(told, bag)) {
                    set |= 1 << bag;
                }
            }
            return set;
        }

        boolean isAllowed(Told told, int bag) {
            for (int i = 0; i < told.weighings.count; i++) {
                int set = told.weighings.get(i, 0);
                int sum = ((set >> bag) & 1) == 1 ? 7 : 0;
                for (int b = 0; b < told.bags.count; b++) {
                    sum += ((set >> b) & 1) == 1 ? told.bags.get(b, 0) : 0;
                }
                if (sum != told.weighings.get(i, 1)) {
                    return false;
                }
            }
            return true;
        }

        int nextSet(int suspects, int bags) {
            if (Integer.bitCount(suspects) < 2) {
                return NONE;
            }
            int best = NONE;
            int bestMark = BEYOND;
            for (int set = 0; set < 1 << bags; set++) {
                int size = Integer.bitCount(set);
                int in = Integer.bitCount(suspects & set);
                int not = Integer.bitCount(suspects & ~set);
                int mark = Math.max(in, not) * 4 + size;
                if ((size == 2 || size == 3) && mark < bestMark) {
                    best = set;
                    bestMark = mark;
                }
            }
            return best;
        }

        // Less at a road's begin is never more at its end, so the least at each place is enough.
        int driestWay(Row roads, int from, int to, int w, int what) {
            for (int p = 0; p < PLACES; p++) {
                least[p] = p == from ? w : NONE;
            }
            int best = NONE;
            int fewest = NONE;
            for (int gone = 0; gone <= MOST_ROADS; gone++) {
                int here = within(to, PLACES - 1) ? least[to] : NONE;
                if (here != NONE && (best == NONE || here < best)) {
                    best = here;
                    fewest = gone;
                }
                goOn(roads);
            }
            return what == 0 ? best : fewest;
        }

        void goOn(Row roads) {
            for (int p = 0; p < PLACES; p++) {
                later[p] = NONE;
            }
            for (int i = 0; i < roads.count; i++) {
                int from = roads.get(i, 0);
                int to = roads.get(i, 1);
                if (within(from, PLACES - 1) && within(to, PLACES - 1) && least[from] != NONE && isFirst(roads, i)) {
                    int wet = Math.max(0, least[from] - roads.get(i, 2));
                    wet = Math.min(MOST_WET, wet + roads.get(i, 3));
                    later[to] = later[to] == NONE ? wet : Math.min(later[to], wet);
                }
            }
            int[] gone = least;
            least = later;
            later = gone;
        }

        boolean isFirst(Row roads, int line) {
            for (int i = 0; i < line; i++) {
                if (roads.get(i, 0) == roads.get(line, 0) && roads.get(i, 1) == roads.get(line, 1)) {
                    return false;
                }
            }
            return true;
        }

        long chance(int[] counts, int cause, int looks) {
            if (!within(cause, CAUSES - 1) || counts.length < CAUSES * LOOKS) {
                return 0;
            }
            long all = LOOKS;
            for (int look = 0; look < LOOKS; look++) {
                all += counts[cause * LOOKS + look];
            }
            long q = 1000000 / CAUSES;
            for (int look = 0; look < LOOKS; look++) {
                if (((looks >> look) & 1) == 1 && all > 0) {
                    q = q * (counts[cause * LOOKS + look] + 1) / all;
                }
            }
            return q;
        }

        int mostLikely(int[] counts, int looks) {
            int most = 0;
            for (int cause = 1; cause < CAUSES; cause++) {
                if (chance(counts, cause, looks) > chance(counts, most, looks)) {
                    most = cause;
                }
            }
            return most;
        }

        int ofMillion(int[] counts, int cause, int looks) {
            long all = 0;
            for (int i = 0; i < CAUSES; i++) {
                all += chance(counts, i, looks);
            }
            return all == 0 ? 0 : (int) (chance(counts, cause, looks) * 1000000 / all);
        }

        /** Day by day the most one can have after each sale, and with salt bought for the next one. */
        int mostWon(Row prices, int k) {
            for (int i = 0; i < sold.length; i++) {
                sold[i] = 0;
                bought[i] = -1000;
            }
            for (int day = 0; day < prices.count; day++) {
                int price = prices.get(day, 0);
                for (int i = 1; i <= k && i < sold.length; i++) {
                    bought[i] = Math.max(bought[i], sold[i - 1] - price);
                    sold[i] = Math.max(sold[i], bought[i] + price);
                }
            }
            return within(k, sold.length - 1) ? sold[k] : 0;
        }
    }
}
