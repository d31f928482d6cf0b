/** Sentences that name boundary cases of promises 1 to 6: a new object, state, traveller, officer, set, act. */
final class PeopleBounds extends Bounds {
    private PeopleBounds() {
    }

    static void all() {
        newObject();
        newObjectHoldsNothing();
        state();
        traveller();
        travellerAtFirst();
        officer();
        set();
        setRefused();
        actOnTravellers();
        actOnOfficersAndGates();
        actRefused();
    }

    /** One whom an officer lets out: dry, so without a charge. */
    private static void letOut(TearCustoms x, int t, int o) {
        x.set(1, t, 0);
        is("let out", x.weigh(t, o), 0);
        is("is out", x.of(t, 5), 1);
    }

    private static void newObject() {
        holds(1, "STATE of draws (an int, 0 at first)", x -> {
            is("look(9)", x.look(9), 0);
            is("state(1)", x.state(1), 0);
        });
        holds(1, "GATES 0 .. 3, each OPEN 1, 0 (1 at first)", x -> {
            is("look(6)", x.look(6), 15);
            for (int g = 0; g < 4; g++) {
                is("open already", x.act(4, g, 0), false);
            }
        });
        holds(1, "TREASURY (an int, 0 at first)", x -> is("look(3)", x.look(3), 0));
        holds(1, "BASIN (an int, 0 at first)", x -> is("look(4)", x.look(4), 0));
        holds(1, "SMUGGLED (an int, 0 at first)", x -> is("look(5)", x.look(5), 0));
        holds(1, "HOUR 0 .. 9999 (0 at first)", x -> {
            is("look(2)", x.look(2), 0);
            Check.fine(x, 2, "at 0 close 1;", 1);
            is("hours(1)", x.hours(1), 0);
            is("what was due at hour 0 is done", x.look(6), 13);
        });
        holds(1, "TEXTS (empty at first)", x -> {
            for (int what = 10; what <= 13; what++) {
                is("look(" + what + ")", x.look(what), 0);
            }
            x.traveller(2, 4, 0);
            x.officer(0, 1, 0);
            is("weep without a law", x.of(0, 8), 5);
            is("rate without a law", x.of(0, 10), 3);
            is("find without a law", x.of(0, 20), 550);
            is("kin", x.of(0, 7), 0);
            is("roads", x.driest(0, 1, 0, 0), NONE);
        });
    }

    private static void newObjectHoldsNothing() {
        holds(1, "`TearCustoms()`: A barrier.", x -> {
            is("travellers", x.look(0), 0);
            is("officers", x.look(1), 0);
            is("out", x.look(7), 0);
            is("lines of the book", x.look(8), 0);
            is("to be undone", x.look(14), 0);
            is("undo()", x.undo(), false);
            is("image(false)", x.image(false), false);
            is("the tape is empty", x.end(1), false);
            is("fault(0)", x.fault(0), 0);
            is("fault(1)", x.fault(1), NONE);
            is("ordered(1)", x.ordered(1), NONE);
            is("hands(0)", x.hands(0), 0);
            is("crates(1, 1)", x.crates(1, 1), 0);
            is("suspects(0)", x.suspects(0), 0);
            is("won(3)", x.won(3), 0);
            is("dry(1)", x.dry(1), NONE);
            Seen.fill(x);
            unchanged(new TearCustoms(), () -> x.hours(3));
            is("another one's travellers", new TearCustoms().look(0), 0);
        });
        holds(1, "An object is used for at most 512 calls after it has been made", x -> {
            for (int i = 0; i < 255; i++) {
                x.act(5, 3, 0);
                x.act(4, 3, 0);
            }
            is("the 511th call", x.undo(), true);
            is("the 512th call", x.look(6), 7);
            TearCustoms y = new TearCustoms();
            for (int i = 0; i < 127; i++) {
                y.feed(0x77656570, 0x20373b77, 0x65657020, 0x383b7261, 0x74652031);
                y.end(7);
                y.text(0);
                y.image(true);
            }
            is("the 509th call", y.traveller(0, 0, 0), 0);
            is("the 510th call", y.of(0, 8), 7);
            is("the 511th call", y.image(false), true);
            is("the 512th call", y.look(10), 1);
        });
        holds(1, "`NONE = -1`: None.", x -> is("NONE", TearCustoms.NONE, -1));
    }

    private static void state() {
        holds(2, "STATE is told: what it was.", x -> {
            int[] told = {LEAST, MOST, -1, 1, 0, 1 << 30};
            int was = 0;
            for (int v : told) {
                is("state(" + v + ")", x.state(v), was);
                is("look(9)", x.look(9), v);
                was = v;
            }
        });
        holds(2, "it becomes 1664525 times itself + 1013904223 (ints, which wrap)", x -> {
            int[] from = {0, 1, -1, MOST, LEAST, 1649599747};
            int[] to = {1013904223, 1015568748, 1012239698, -1135243950, -1133579425, -1624324474};
            x.officer(0, 0, 0);
            for (int i = 0; i < from.length; i++) {
                x.traveller(0, 0, 0);
                x.state(from[i]);
                x.weigh(i, 0);
                is("from " + from[i], x.look(9), to[i]);
            }
        });
        // The next states are -1135243950, -1133579425, -775096599 and 1013904223.
        holds(2, "then it is its highest 24 bits (without sign) modulo m", x -> {
            int[] from = {MOST, LEAST, 1196435762, 0};
            int[] draw = {669, 171, 494, 563};
            for (int i = 0; i < from.length; i++) {
                for (int more = 0; more < 2; more++) {
                    TearCustoms y = new TearCustoms();
                    y.traveller(0, 0, 9);
                    y.officer(0, 0, 0);
                    y.set(1, 0, 1);
                    Check.fine(y, 0, "find " + (draw[i] + more) + ";", 1);
                    y.state(from[i]);
                    is("a draw of " + draw[i] + " is below " + (draw[i] + more), y.weigh(0, 0), more);
                }
            }
        });
    }

    private static void traveller() {
        holds(3, "CAUSE 0 .. 5", x -> {
            is("cause 0", x.traveller(0, 1, 1), 0);
            is("cause 5", x.traveller(5, 1, 1), 1);
            is("its cause", x.of(1, 0), 5);
            for (int v : new int[] {-1, 6, LEAST, MOST}) {
                is("cause " + v, x.traveller(v, 1, 1), NONE);
            }
        });
        holds(3, "GRIP 0 .. 9", x -> {
            is("grip 0", x.traveller(1, 0, 1), 0);
            is("grip 9", x.traveller(1, 9, 1), 1);
            is("its grip", x.of(1, 1), 9);
            for (int v : new int[] {-1, 10, LEAST, MOST}) {
                is("grip " + v, x.traveller(1, v, 1), NONE);
            }
        });
        holds(3, "COIN 0 .. 9999", x -> {
            is("coin 0", x.traveller(1, 1, 0), 0);
            is("coin 9999", x.traveller(1, 1, 9999), 1);
            is("its coin", x.of(1, 2), 9999);
            for (int v : new int[] {-1, 10000, LEAST, MOST}) {
                is("coin " + v, x.traveller(1, 1, v), NONE);
            }
        });
        holds(3, "TRAVELLERS 0 .. 11 as they come", x -> {
            for (int t = 0; t < 12; t++) {
                is("traveller", x.traveller(t % 6, t % 10, t), t);
            }
            for (int t = 0; t < 12; t++) {
                is("coin of " + t, x.of(t, 2), t);
            }
        });
        holds(3, "NONE if one can't be, or there are twelve.", x -> {
            Seen.fill(x);
            unchanged(x, () -> is("one who can't be", x.traveller(6, 10, -1), NONE));
            TearCustoms y = new TearCustoms();
            for (int t = 0; t < 12; t++) {
                is("traveller", y.traveller(0, 0, 0), t);
            }
            is("one who is not there can't be sent", y.act(0, 12, 0), false);
            y.act(1, 11, 0);
            unchanged(y, () -> is("the thirteenth", y.traveller(0, 0, 0), NONE));
            is("what can be undone stays", y.look(14), 1);
        });
    }

    /** What those who come have at first, also in the place of ones who are gone with an image. */
    private static void travellerAtFirst() {
        holds(3, "WET 0 .. 99 (0 at first)", x -> {
            is("wet", comeAnew(x, 3), 0);
        });
        holds(3, "AT: a GATE 0 .. 3 or none (none at first)", x -> {
            is("at", comeAnew(x, 4), NONE);
        });
        holds(3, "OUT 0, 1 (0 at first)", x -> {
            is("out", comeAnew(x, 5), 0);
            is("out", x.look(7), 0);
        });
        holds(3, "BOND 0, 1 (0 at first)", x -> {
            is("bond", comeAnew(x, 6), 0);
            is("out", x.of(1, 5), 0);
        });
    }

    /** An image is taken, 0 is bonded and 1 let out, both are gone with the image; this is told of one who comes then. */
    private static int comeAnew(TearCustoms x, int what) {
        x.officer(2, 0, 0);
        x.image(true);
        for (int t = 0; t < 2; t++) {
            x.traveller(1, 1, 1);
            is("at first", x.of(t, what), what == 4 ? NONE : 0);
            x.act(0, t, 2);
        }
        Check.fine(x, 0, "find 1000;", 1);
        x.set(1, 0, 50);
        is("bonded", x.weigh(0, 0), 1);
        is("let out", x.weigh(1, 0), 0);
        x.set(1, 0, 7);
        x.set(1, 1, 7);
        x.image(false);
        is("0 comes", x.traveller(2, 2, 2), 0);
        is("1 comes", x.traveller(2, 2, 2), 1);
        is("of both the same", x.of(1, what), x.of(0, what));
        return x.of(0, what);
    }

    private static void officer() {
        holds(4, "GATE 0 .. 3", x -> {
            is("gate 0", x.officer(0, 1, 1), 0);
            is("gate 3", x.officer(3, 1, 1), 1);
            is("its gate", x.who(1, 0), 3);
            for (int v : new int[] {-1, 4, LEAST, MOST}) {
                is("gate " + v, x.officer(v, 1, 1), NONE);
            }
        });
        holds(4, "NOSE 0 .. 9", x -> {
            is("nose 0", x.officer(1, 0, 1), 0);
            is("nose 9", x.officer(1, 9, 1), 1);
            is("its nose", x.who(1, 1), 9);
            for (int v : new int[] {-1, 10, LEAST, MOST}) {
                is("nose " + v, x.officer(1, v, 1), NONE);
            }
        });
        holds(4, "SOFT 0 .. 9", x -> {
            is("soft 0", x.officer(1, 1, 0), 0);
            is("soft 9", x.officer(1, 1, 9), 1);
            is("its soft", x.who(1, 2), 9);
            for (int v : new int[] {-1, 10, LEAST, MOST}) {
                is("soft " + v, x.officer(1, 1, v), NONE);
            }
        });
        holds(4, "TIRED 0 .. 9 (0 at first)", x -> {
            x.image(true);
            x.officer(1, 1, 1);
            is("tired", x.who(0, 3), 0);
            x.set(3, 0, 9);
            x.image(false);
            x.officer(2, 2, 2);
            is("tired of one who comes in the place of another", x.who(0, 3), 0);
        });
        holds(4, "OFFICERS 0 .. 5 as they come", x -> {
            for (int o = 0; o < 6; o++) {
                is("officer", x.officer(o % 4, o, 9 - o), o);
            }
            for (int o = 0; o < 6; o++) {
                is("nose of " + o, x.who(o, 1), o);
            }
        });
        holds(4, "NONE if one can't be, or there are six.", x -> {
            Seen.fill(x);
            unchanged(x, () -> is("one who can't be", x.officer(4, -1, 10), NONE));
            TearCustoms y = new TearCustoms();
            for (int o = 0; o < 6; o++) {
                is("officer", y.officer(0, 0, 0), o);
            }
            is("one who is not there can't be moved", y.act(3, 6, 0), false);
            y.act(3, 5, 1);
            unchanged(y, () -> is("the seventh", y.officer(0, 0, 0), NONE));
            is("what can be undone stays", y.look(14), 1);
        });
    }

    /** Both bounds can be told, what is just beyond them can't; it stays as it was then. */
    private static void bounds(TearCustoms x, int what, int most) {
        x.traveller(1, 1, 1);
        x.officer(1, 1, 1);
        int seen = new int[] {2, 3, 1, 3, 2}[what];
        for (int v : new int[] {0, most, 1}) {
            is("set to " + v, x.set(what, 0, v), true);
            is("is then", what < 3 ? x.of(0, seen) : x.who(0, seen), v);
        }
        for (int v : new int[] {-1, most + 1, LEAST, MOST}) {
            is("set to " + v, x.set(what, 0, v), false);
            is("stays", what < 3 ? x.of(0, seen) : x.who(0, seen), 1);
        }
    }

    private static void set() {
        holds(5, "COIN 0 .. 9999", x -> bounds(x, 0, 9999));
        holds(5, "WET 0 .. 99", x -> bounds(x, 1, 99));
        holds(5, "GRIP 0 .. 9", x -> bounds(x, 2, 9));
        holds(5, "TIRED 0 .. 9", x -> bounds(x, 3, 9));
        holds(5, "SOFT 0 .. 9", x -> bounds(x, 4, 9));
    }

    private static void setRefused() {
        holds(5, "What 0 COIN, 1 WET, 2 GRIP of TRAVELLER who, 3 TIRED, 4 SOFT of OFFICER who: true; false if one can't be", x -> {
            for (int what = 0; what < 5; what++) {
                is("set of nobody", x.set(what, 0, 1), false);
            }
            Seen.fill(x);
            unchanged(x, () -> {
                for (int what = 0; what < 5; what++) {
                    for (int who : new int[] {-1, what < 3 ? 3 : 2, 12, LEAST, MOST}) {
                        is("set " + what + " of " + who, x.set(what, who, 1), false);
                    }
                }
            });
            is("the third traveller is there", x.set(0, 2, 1), true);
            is("the second officer is there", x.set(3, 1, 1), true);
        });
        holds(5, "false if one can't be, or another what.", x -> {
            Seen.fill(x);
            unchanged(x, () -> {
                for (int what : new int[] {-1, 5, LEAST, MOST}) {
                    is("set " + what, x.set(what, 0, 0), false);
                    is("set " + what, x.set(what, 1, 1), false);
                }
            });
        });
    }

    private static void actOnTravellers() {
        holds(6, "To SEND a TRAVELLER who is not OUT to a GATE: AT.", x -> {
            x.traveller(0, 0, 0);
            for (int g = 0; g < 4; g++) {
                is("send", x.act(0, 0, g), true);
                is("at", x.of(0, 4), g);
            }
            is("there already", x.act(0, 0, 3), true);
            for (int v : new int[] {-1, 4, LEAST, MOST}) {
                is("to gate " + v, x.act(0, 0, v), false);
            }
            is("at", x.of(0, 4), 3);
        });
        holds(6, "To TELL a JOKE to one not OUT: WET is halved.", x -> {
            x.traveller(0, 0, 0);
            int[] wet = {0, 1, 2, 3, 98, 99};
            int[] then = {0, 0, 1, 1, 49, 49};
            for (int i = 0; i < wet.length; i++) {
                x.set(1, 0, wet[i]);
                is("joke", x.act(1, 0, 0), true);
                is("half of " + wet[i], x.of(0, 3), then[i]);
            }
        });
        holds(6, "Quotients go downwards.", x -> {
            x.traveller(0, 0, 0);
            for (int wet = 1; wet < 99; wet += 2) {
                x.set(1, 0, wet);
                x.act(1, 0, 0);
                is("half of " + wet, 2 * x.of(0, 3), wet - 1);
            }
        });
        holds(6, "To give an ONION to one not OUT: WET 20 more (99 at most).", x -> {
            x.traveller(0, 0, 0);
            int[] wet = {0, 78, 79, 80, 98, 99};
            int[] then = {20, 98, 99, 99, 99, 99};
            for (int i = 0; i < wet.length; i++) {
                x.set(1, 0, wet[i]);
                is("onion", x.act(2, 0, 0), true);
                is("20 more than " + wet[i], x.of(0, 3), then[i]);
            }
        });
        holds(6, "false if it can't be (OUT;", x -> {
            Seen.fill(x);
            letOut(x, 1, 0);
            x.act(0, 2, 3);
            unchanged(x, () -> {
                for (int what = 0; what < 3; what++) {
                    is("act " + what + " for one out", x.act(what, 1, 0), false);
                    is("act " + what + " for nobody", x.act(what, -1, 0), false);
                    is("act " + what + " for nobody", x.act(what, 3, 0), false);
                    is("act " + what + " for nobody", x.act(what, LEAST, 0), false);
                    is("act " + what + " for nobody", x.act(what, MOST, 0), false);
                }
            });
            is("for one not out", x.act(0, 2, 0), true);
        });
    }

    private static void actOnOfficersAndGates() {
        holds(6, "To MOVE an OFFICER: GATE.", x -> {
            is("nobody is there", x.act(3, 0, 0), false);
            x.officer(2, 0, 0);
            for (int g = 0; g < 4; g++) {
                is("move", x.act(3, 0, g), true);
                is("gate", x.who(0, 0), g);
            }
            is("there already", x.act(3, 0, 3), true);
            for (int v : new int[] {-1, 4, LEAST, MOST}) {
                is("to gate " + v, x.act(3, 0, v), false);
            }
            for (int who : new int[] {-1, 1, LEAST, MOST}) {
                is("officer " + who, x.act(3, who, 0), false);
            }
            is("gate", x.who(0, 0), 3);
        });
        holds(6, "To OPEN, to CLOSE a GATE.", x -> {
            for (int g = 0; g < 4; g++) {
                is("close", x.act(5, g, 0), true);
            }
            is("all are closed", x.look(6), 0);
            for (int g = 3; g >= 0; g--) {
                is("open", x.act(4, g, 0), true);
                is("open gates", x.look(6), 15 & -1 << g);
            }
            for (int g : new int[] {-1, 4, 32, LEAST, MOST}) {
                is("open gate " + g, x.act(4, g, 0), false);
                is("close gate " + g, x.act(5, g, 0), false);
            }
            is("open gates", x.look(6), 15);
        });
        holds(6, "OPEN, CLOSED already)", x -> {
            x.act(5, 2, 0);
            unchanged(x, () -> {
                is("closed already", x.act(5, 2, 0), false);
                is("open already", x.act(4, 1, 0), false);
            });
            is("opened", x.act(4, 2, 0), true);
            is("open already", x.act(4, 2, 0), false);
        });
        holds(6, "(v else not asked)", x -> {
            x.traveller(0, 0, 0);
            for (int v : new int[] {-1, 4, 9999, LEAST, MOST}) {
                is("joke", x.act(1, 0, v), true);
                is("onion", x.act(2, 0, v), true);
                is("close", x.act(5, 3, v), true);
                is("open", x.act(4, 3, v), true);
            }
            is("at", x.of(0, 4), NONE);
        });
    }

    private static void actRefused() {
        holds(6, "false if it can't be (OUT; OPEN, CLOSED already), or another what.", x -> {
            Seen.fill(x);
            x.act(5, 0, 0);
            unchanged(x, () -> {
                for (int what : new int[] {-1, 6, LEAST, MOST}) {
                    for (int who = 0; who < 3; who++) {
                        is("act " + what, x.act(what, who, 0), false);
                    }
                }
                is("send to no gate", x.act(0, 0, 4), false);
                is("move to no gate", x.act(3, 0, 4), false);
            });
        });
    }
}
