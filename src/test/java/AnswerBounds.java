/** Sentences that name boundary cases of promises 13 to 15 and 40: of, who, book, look. */
final class AnswerBounds extends Bounds {
    private AnswerBounds() {
    }

    static void all() {
        ofRefused();
        of();
        lawWithoutLines();
        lawHeld();
        lawWraps();
        lawAsks();
        lawLines();
        who();
        book();
        bookOfWhat();
        look();
        lookAtSets();
    }

    /** What a law of one line tells of traveller 0. */
    private static int tells(TearCustoms x, String line, int what) {
        Check.fine(x, 0, line, 1);
        return x.of(0, what);
    }

    private static void ofRefused() {
        holds(13, "NONE - 1 if there is none such, or another what.", x -> {
            is("nobody at all", x.of(0, 0), -2);
            Seen.fill(x);
            unchanged(x, () -> {
                for (int t : new int[] {-1, 3, 11, 12, 32, LEAST, MOST}) {
                    is("of " + t, x.of(t, 0), -2);
                    is("of " + t, x.of(t, 7), -2);
                    is("of " + t, x.of(t, 8), -2);
                    is("of " + t, x.of(t, 10), -2);
                }
                for (int what : new int[] {-1, -2, 9, 19, 26, 30, LEAST, MOST}) {
                    is("what " + what, x.of(0, what), -2);
                }
            });
        });
        holds(13, "10 + o rate, 20 + o find by OFFICER o.", x -> {
            x.traveller(3, 0, 0);
            is("no officer", x.of(0, 10), -2);
            is("no officer", x.of(0, 20), -2);
            for (int o = 0; o < 6; o++) {
                x.officer(0, o, 0);
                is("rate", x.of(0, 10 + o), 4);
                is("no such officer yet", x.of(0, 11 + o), -2);
                is("find", x.of(0, 20 + o), 500 + 50 * o);
                is("no such officer yet", x.of(0, 21 + o), -2);
            }
            for (int what = 16; what < 20; what++) {
                is("what " + what, x.of(0, what), -2);
            }
            is("what 26", x.of(0, 26), -2);
        });
    }

    private static void of() {
        holds(13, "4 AT (NONE)", x -> {
            x.traveller(0, 0, 0);
            x.officer(0, 0, 0);
            is("at none", x.of(0, 4), NONE);
            x.act(0, 0, 0);
            is("at gate 0", x.of(0, 4), 0);
            x.weigh(0, 0);
            is("at none", x.of(0, 4), NONE);
        });
        holds(13, "7 his KIN (a set)", x -> {
            for (int t = 0; t < 12; t++) {
                x.traveller(0, 0, 0);
            }
            is("none", x.of(0, 7), 0);
            StringBuilder all = new StringBuilder();
            for (int t = 1; t < 12; t++) {
                all.append("traveller 0 with ").append(t).append(';');
            }
            Check.fine(x, 1, all.toString(), 11);
            is("all but himself", x.of(0, 7), 4094);
            is("the last one's", x.of(11, 7), 1);
        });
    }

    private static void lawWithoutLines() {
        holds(13, "(none: weep: 9 less grip, rate: cause and 1, find: 500 and 50 times nose)", x -> {
            x.traveller(0, 0, 0);
            x.traveller(5, 9, 0);
            x.officer(0, 0, 0);
            x.officer(0, 9, 0);
            int[] due = {9, 1, 500, 950};
            int[] last = {0, 6, 500, 950};
            int[] what = {8, 10, 20, 21};
            for (int i = 0; i < what.length; i++) {
                is("of 0, " + what[i], x.of(0, what[i]), due[i]);
                is("of 1, " + what[i], x.of(1, what[i]), last[i]);
            }
            Check.fine(x, 0, "weep 50 when 1=2; rate 50 when 1=2; find 50 when 1=2;", 3);
            for (int i = 0; i < what.length; i++) {
                is("none is so: " + what[i], x.of(0, what[i]), due[i]);
            }
        });
    }

    private static void lawHeld() {
        holds(13, "weep held to 0 .. 99", x -> {
            x.traveller(0, 0, 0);
            int[] due = {0, 0, 1, 98, 99, 99, 99};
            String[] e = {"0-1", "0", "1", "98", "99", "100", "9999"};
            for (int i = 0; i < e.length; i++) {
                is(e[i], tells(x, "weep " + e[i] + ";", 8), due[i]);
            }
        });
        holds(13, "rate to 0 .. 99", x -> {
            x.traveller(0, 0, 0);
            x.officer(0, 0, 0);
            int[] due = {0, 0, 1, 98, 99, 99, 99};
            String[] e = {"0-1", "0", "1", "98", "99", "100", "9999"};
            for (int i = 0; i < e.length; i++) {
                is(e[i], tells(x, "rate " + e[i] + ";", 10), due[i]);
            }
        });
        holds(13, "find to 0 .. 1000", x -> {
            x.traveller(0, 0, 0);
            x.officer(0, 0, 0);
            int[] due = {0, 0, 1, 999, 1000, 1000, 1000};
            String[] e = {"0-1", "0", "1", "999", "1000", "1001", "9999"};
            for (int i = 0; i < e.length; i++) {
                is(e[i], tells(x, "find " + e[i] + ";", 20), due[i]);
            }
        });
    }

    private static void lawWraps() {
        // 9999 times 9999 is 99980001: times 21 it is an int yet, times 22 it is below 0, times 43 it is 4172747.
        holds(13, "Ints, which wrap;", x -> {
            x.traveller(0, 0, 0);
            x.officer(0, 0, 0);
            is("not yet", tells(x, "find 9999*9999*21/9999/9999;", 20), 21);
            is("below 0", tells(x, "find 9999*9999*22;", 20), 0);
            is("above 0 again", tells(x, "find 9999*9999*43-9999*417-3000;", 20), 164);
            is("2 to the 31 is below 0", tells(x, "find 5 when 1024*1024*2048<0;", 20), 5);
            is("2 to the 32 is 0", tells(x, "find 6 when 1024*1024*4096=0;", 20), 6);
            is("sums wrap too", tells(x, "find 7 when 1024*1024*2047+1024*1024<0;", 20), 7);
            is("and differences", tells(x, "find 8 when 1024*1024*2048-1>0;", 20), 8);
        });
        // Only what has wrapped is below 0 ahead of a /: 1024 * 1024 * 4095 is -1048576.
        holds(13, "/ goes towards 0", x -> {
            x.traveller(0, 0, 0);
            x.officer(0, 0, 0);
            is("7 by 2", tells(x, "find 7/2;", 20), 3);
            is("1 by 9999", tells(x, "find 1/9999;", 20), 0);
            is("7 by 2 taken off", tells(x, "find 100-7/2;", 20), 97);
            is("by 1", tells(x, "find 1 when 1024*1024*4095/1=0-1024*1024;", 20), 1);
            is("by 3", tells(x, "find 2 when 1024*1024*4095/3=0-9999*34-9559;", 20), 2);
            is("by 9999", tells(x, "find 3 when 1024*1024*4095/9999=0-104;", 20), 3);
            is("the least int by 1", tells(x, "find 4 when 1024*1024*2048/1=1024*1024*2048;", 20), 4);
        });
    }

    private static void lawAsks() {
        holds(13, "hour: HOUR modulo 24", x -> {
            x.traveller(0, 0, 0);
            Check.fine(x, 0, "weep hour;", 1);
            is("0", x.of(0, 8), 0);
            x.hours(23);
            is("23", x.of(0, 8), 23);
            x.hours(1);
            is("24", x.of(0, 8), 0);
            x.hours(25);
            is("49", x.of(0, 8), 1);
        });
        holds(13, "gate: where he is AT (none: 0)", x -> {
            x.traveller(0, 0, 0);
            is("none", tells(x, "weep gate+5;", 8), 5);
            Check.fine(x, 0, "weep gate;", 1);
            is("none", x.of(0, 8), 0);
            for (int g = 3; g >= 0; g--) {
                x.act(0, 0, g);
                is("gate", x.of(0, 8), g);
            }
        });
        holds(13, "kin: how many of his KIN are OUT", x -> {
            for (int t = 0; t < 4; t++) {
                x.traveller(0, 0, 0);
            }
            x.officer(0, 0, 0);
            Check.fine(x, 0, "weep kin;", 1);
            is("none told", x.of(0, 8), 0);
            Check.fine(x, 1, "traveller 0 with 1; traveller 1 with 0; traveller 2 with 0;", 3);
            is("none out", x.of(0, 8), 0);
            x.weigh(3, 0);
            is("one out who is not his", x.of(0, 8), 0);
            x.weigh(1, 0);
            is("one told twice", x.of(0, 8), 1);
            x.weigh(2, 0);
            is("both", x.of(0, 8), 2);
            is("theirs is not", x.of(1, 8), 0);
            x.weigh(0, 0);
            is("also of one out", x.of(1, 8), 1);
        });
        holds(13, "nose, soft, tired: the OFFICER's who weighs him (weep: 0)", x -> {
            x.traveller(0, 0, 0);
            x.officer(0, 1, 2);
            x.officer(0, 9, 8);
            x.set(3, 0, 3);
            x.set(3, 1, 7);
            x.act(0, 0, 0);
            is("weep", tells(x, "weep 50+nose;", 8), 50);
            is("weep", tells(x, "weep 50+soft;", 8), 50);
            is("weep", tells(x, "weep 50+tired;", 8), 50);
            is("rate by 0", tells(x, "rate nose*25+soft*5+tired;", 10), 38);
            is("rate by 1", x.of(0, 11), 99);
            is("find by 0", tells(x, "find nose*100+soft*10+tired;", 20), 123);
            is("find by 1", x.of(0, 21), 987);
        });
        holds(13, "cause, grip, wet, coin: his", x -> {
            x.traveller(0, 0, 0);
            x.traveller(5, 9, 9999);
            x.set(1, 1, 99);
            Check.fine(x, 0, "weep cause+grip+wet+coin;", 1);
            is("the least", x.of(0, 8), 0);
            Check.fine(x, 0, "weep cause*10-grip+wet-coin/202;", 1);
            is("the most", x.of(1, 8), 91);
        });
    }

    private static void lawLines() {
        holds(13, "E of the first line with that word whose B is so, or that has none", x -> {
            x.traveller(0, 0, 0);
            x.officer(0, 0, 0);
            Check.fine(x, 0, "rate 1; weep 2 when 1>1; weep 3 when 1<1; weep 4 when not 1=1; weep 5; weep 6;", 6);
            is("the first without a B", x.of(0, 8), 5);
            is("rate", x.of(0, 10), 1);
            is("find has none", x.of(0, 20), 500);
            Check.fine(x, 0, "weep 1 when 0=1;".repeat(15) + "weep 9;", 16);
            is("the sixteenth", x.of(0, 8), 9);
        });
        holds(13, "B = A {or A}.  A = C {and C}.  C = E (< | = | >) E | not C | ( B ).", x -> {
            x.traveller(0, 0, 0);
            String[] c = {"1<2", "2<2", "3<2", "2=2", "1=2", "3>2", "2>2", "1>2"};
            int[] so = {1, 0, 0, 1, 0, 1, 0, 0};
            for (int i = 0; i < c.length; i++) {
                is(c[i], tells(x, "weep 50 when " + c[i] + ";", 8), so[i] == 1 ? 50 : 9);
                is("not " + c[i], tells(x, "weep 50 when not " + c[i] + ";", 8), so[i] == 1 ? 9 : 50);
            }
            for (int i = 0; i < 8; i++) {
                truths(new TearCustoms(), (i & 1) == 1, (i & 2) == 2, (i & 4) == 4);
            }
        });
    }

    /** Three comparisons joined: and ahead of or, not ahead of both, ( ) ahead of all. */
    private static void truths(TearCustoms x, boolean p, boolean q, boolean r) {
        x.traveller(0, 0, 0);
        String[] b = {"P or Q", "P and Q", "P or Q and R", "P and Q or R", "(P or Q) and R", "P and (Q or R)", "not P or Q",
            "not P and Q", "not (P or Q)", "not (P and Q)", "P or (Q)", "P and (not (Q) or (R))", "P or Q or R", "P and Q and R",
            "not not P and not (not Q)", "(P and (Q or (R and P))) or not R"};
        boolean[] so = {p || q, p && q, p || q && r, p && q || r, (p || q) && r, p && (q || r), !p || q,
            !p && q, !(p || q), !(p && q), p || q, p && (!q || r), p || q || r, p && q && r,
            p && q, p && (q || r && p) || !r};
        for (int i = 0; i < b.length; i++) {
            String told = b[i].replace("P", p ? "1<2" : "2<1").replace("Q", q ? "2>1" : "1>2").replace("R", r ? "1=1" : "1=2");
            is(b[i], tells(x, "weep 50 when " + told + ";", 8), so[i] ? 50 : 9);
        }
    }

    private static void who() {
        holds(14, "NONE if there is none such, or another what.", x -> {
            is("nobody at all", x.who(0, 0), NONE);
            Seen.fill(x);
            unchanged(x, () -> {
                for (int o : new int[] {-1, 2, 5, 6, LEAST, MOST}) {
                    for (int what = 0; what < 4; what++) {
                        is("who " + o, x.who(o, what), NONE);
                    }
                }
                for (int what : new int[] {-1, 4, LEAST, MOST}) {
                    is("what " + what, x.who(1, what), NONE);
                }
            });
        });
        holds(14, "Of an OFFICER what 0 GATE, 1 NOSE, 2 SOFT, 3 TIRED.", x -> {
            for (int o = 0; o < 6; o++) {
                x.officer(3, 9, 9);
            }
            x.set(3, 5, 9);
            int[] due = {3, 9, 9, 9};
            for (int what = 0; what < 4; what++) {
                is("the most of the last one", x.who(5, what), due[what]);
            }
            x.officer(0, 0, 0);
            is("not beyond", x.who(6, 1), NONE);
        });
    }

    private static void book() {
        holds(15, "THE BOOK (150 lines; no more then)", x -> {
            fillBook(x);
            is("by hand", x.weigh(0, 0), 0);
            is("by hand", x.weigh(5, 0), 0);
            is("lines", x.look(8), 146);
            x.set(3, 0, 0);
            x.hours(1);
            is("lines", x.look(8), 150);
            int[][] due = {{23, 1, 5, 0}, {24, 1, 0, 0}, {24, 1, 5, 0}, {24, 0, 0, 0}, {24, 1, 1, 0}, {24, 1, 2, 0}, {24, 1, 3, 0}};
            for (int i = 0; i < due.length; i++) {
                for (int what = 0; what < 4; what++) {
                    is("book(" + (143 + i) + ", " + what + ")", x.book(143 + i, what), due[i][what]);
                }
            }
            is("no line more", x.book(150, 0), NONE);
            is("what is not written is done", x.of(5, 5), 1);
        });
        holds(15, "NONE if there is none such, or another what.", x -> {
            is("no line at all", x.book(0, 0), NONE);
            Seen.fill(x);
            is("one line", x.look(8), 1);
            unchanged(x, () -> {
                for (int i : new int[] {-1, 1, 149, 150, 1 << 30, LEAST, MOST}) {
                    is("line " + i, x.book(i, 0), NONE);
                }
                for (int what : new int[] {-1, 4, LEAST, MOST}) {
                    is("what " + what, x.book(0, what), NONE);
                }
            });
            is("undo", x.undo(), true);
            is("undo", x.undo(), true);
            is("the line is gone", x.book(0, 2), NONE);
        });
    }

    private static void bookOfWhat() {
        holds(15, "(2: OUT without a charge, WET above 0.)", x -> {
            for (int t = 0; t < 4; t++) {
                x.traveller(0, 0, t == 3 ? 0 : 9);
                x.set(1, t, t == 0 ? 0 : 1);
            }
            x.officer(0, 0, 0);
            Check.fine(x, 0, "find 0;", 1);
            x.weigh(0, 0);
            x.weigh(1, 0);
            Check.fine(x, 0, "find 1000;", 1);
            x.weigh(2, 0);
            x.weigh(3, 0);
            int[][] due = {{0, 0, 0}, {2, 1, 1}, {0, 2, 1}, {1, 3, 0}};
            for (int i = 0; i < due.length; i++) {
                for (int what = 1; what < 4; what++) {
                    is("book(" + i + ", " + what + ")", x.book(i, what), due[i][what - 1]);
                }
            }
        });
        holds(15, "how much (0, 1: what he paid; 2: WET)", x -> {
            for (int t = 0; t < 3; t++) {
                x.traveller(5, 0, t == 1 ? 9800 : 9999);
                x.set(1, t, 99);
            }
            x.officer(0, 0, 0);
            Check.fine(x, 0, "find 1000 when grip=0; find 0; rate 99;", 3);
            x.set(2, 2, 1);
            for (int t = 0; t < 3; t++) {
                x.weigh(t, 0);
            }
            int[] what = {0, 1, 2};
            int[] much = {9801, 9800, 99};
            for (int i = 0; i < 3; i++) {
                is("what", x.book(i, 1), what[i]);
                is("how much", x.book(i, 3), much[i]);
            }
        });
        holds(15, "THE BOOK (150 lines; no more then): HOUR", x -> {
            x.traveller(0, 0, 0);
            x.officer(0, 0, 0);
            for (int i = 0; i < 166; i++) {
                x.hours(60);
            }
            x.hours(39);
            x.set(1, 0, 0);
            x.weigh(0, 0);
            is("the latest hour", x.book(0, 0), 9999);
        });
    }

    private static void look() {
        holds(40, "NONE - 99999 for another what.", x -> {
            Seen.fill(x);
            unchanged(x, () -> {
                for (int what : new int[] {-1, 15, 16, LEAST, MOST}) {
                    is("look(" + what + ")", x.look(what), -100000);
                }
            });
        });
        holds(40, "(STATE as it is.)", x -> {
            for (int v : new int[] {LEAST, -100000, -1, MOST, 0}) {
                x.state(v);
                is("look(9)", x.look(9), v);
                is("look(9)", x.look(9), v);
            }
        });
        holds(40, "What 0 TRAVELLERS, 1 OFFICERS, 2 HOUR, 3 TREASURY, 4 BASIN, 5 SMUGGLED", x -> {
            for (int t = 0; t < 12; t++) {
                is("travellers", x.look(0), t);
                x.traveller(0, 0, 9999);
                x.set(1, t, 99);
            }
            for (int o = 0; o < 6; o++) {
                is("officers", x.look(1), o);
                x.officer(0, 0, 0);
            }
            x.traveller(0, 0, 0);
            x.officer(0, 0, 0);
            is("twelve", x.look(0), 12);
            is("six", x.look(1), 6);
            Check.fine(x, 0, "find 1000 when grip=0; find 0; rate 99;", 3);
            for (int t = 0; t < 12; t++) {
                x.set(2, t, t % 2);
                x.weigh(t, 0);
            }
            is("treasury", x.look(3), 6 * 9801);
            is("basin", x.look(4), 6 * 99);
            is("smuggled", x.look(5), 6 * 99);
            is("hour", x.look(2), 0);
        });
    }

    private static void lookAtSets() {
        holds(40, "6 OPEN GATES (a set)", x -> {
            is("all", x.look(6), 15);
            for (int g = 0; g < 4; g++) {
                x.act(5, g, 0);
                is("without " + g, x.look(6), 15 & -2 << g);
            }
        });
        holds(40, "7 those OUT (a set)", x -> {
            x.officer(0, 0, 0);
            for (int t = 0; t < 12; t++) {
                x.traveller(0, 0, 0);
            }
            is("none", x.look(7), 0);
            for (int t = 11; t >= 0; t--) {
                x.weigh(t, 0);
                is("with " + t, x.look(7), 4095 & -1 << t);
            }
        });
        holds(40, "8 lines of THE BOOK", x -> {
            fillBook(x);
            for (int i = 0; i < 8; i++) {
                x.set(1, 0, 1);
                x.weigh(0, 0);
                is("lines", x.look(8), Math.min(150, 145 + i));
            }
        });
        holds(40, "10 lines of THE LAW, 11 of KIN, 12 of SHIFTS, 13 of ROADS", x -> {
            x.traveller(0, 0, 0);
            x.traveller(0, 0, 0);
            String[] line = {"weep 1;", "traveller 0 with 1;", "at 0 open 0;", "road 0 1 dry 0 wet 0;"};
            for (int k = 0; k < 4; k++) {
                for (int lines : new int[] {0, 1, 16}) {
                    Check.fine(x, k, line[k].repeat(lines), lines);
                    is("lines", x.look(10 + k), lines);
                }
                is("a seventeenth", Check.tell(x, k, line[k].repeat(17)), NONE);
                is("lines", x.look(10 + k), 16);
            }
        });
        holds(40, "14 what can be undone", x -> {
            is("nothing", x.look(14), 0);
            for (int i = 1; i <= 9; i++) {
                x.hours(1);
                is("six at most", x.look(14), Math.min(6, i));
            }
            for (int i = 5; i >= 0; i--) {
                x.undo();
                is("one less", x.look(14), i);
            }
            x.undo();
            is("not below 0", x.look(14), 0);
        });
    }
}
