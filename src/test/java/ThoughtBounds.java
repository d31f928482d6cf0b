/** Sentences that name boundary cases of promises 16 to 27: goes, rate, order, hands, crates, bags, the driest way. */
final class ThoughtBounds extends Bounds {
    private ThoughtBounds() {
    }

    static void all() {
        goes();
        goesLeavesAll();
        rate();
        order();
        ordered();
        hand();
        hands();
        weight();
        crates();
        bag();
        weighed();
        suspects();
        next();
        driest();
        driestHeld();
        driestRefused();
    }

    private static void goes() {
        holds(16, "GOES for n (1 .. 60) HOURS", x -> {
            x.traveller(0, 0, 0);
            x.traveller(0, 0, 0);
            x.officer(0, 0, 0);
            x.act(0, 0, 0);
            Check.fine(x, 2, "at 59 send 1 to 0; at 59 joke 1;", 2);
            Check.fine(x, 0, "weep 0;", 1);
            is("one hour", x.goes(1, 1), 1);
            is("59 hours", x.goes(59, 1), 1);
            is("sixty hours", x.goes(60, 1), 2);
            for (int n : new int[] {0, 61, -1, LEAST, MOST}) {
                is("goes(" + n + ")", x.goes(n, 1), NONE);
            }
        });
        holds(16, "NONE if one can't be, or another what.", x -> {
            is("nobody", x.goes(60, 3), 0);
            for (int what : new int[] {-1, 4, LEAST, MOST}) {
                is("what " + what, x.goes(1, what), NONE);
            }
        });
        holds(16, "it is found, if find is 500 at least", x -> {
            for (int find = 499; find <= 501; find++) {
                TearCustoms y = new TearCustoms();
                y.traveller(0, 0, 100);
                y.officer(0, 0, 0);
                y.set(1, 0, 50);
                y.act(0, 0, 0);
                Check.fine(y, 0, "find " + find + ";", 1);
                int[] due = {find < 500 ? 0 : 50, 1, find < 500 ? 0 : 50, 0};
                for (int what = 0; what < 4; what++) {
                    is("find " + find + ", what " + what, y.goes(1, what), due[what]);
                }
            }
        });
        holds(16, "TREASURY, how many are OUT, BASIN, how many BONDS then.", x -> {
            for (int t = 0; t < 12; t++) {
                x.traveller(0, 9, 0);
                x.set(1, t, 99);
                x.act(0, t, t % 4);
            }
            for (int o = 0; o < 4; o++) {
                x.officer(o, 0, 0);
            }
            Check.fine(x, 0, "rate 99;", 1);
            int[] hour1 = {0, 0, 396, 4};
            int[] hour2 = {0, 4, 396, 0};
            for (int what = 0; what < 4; what++) {
                is("1 hour, " + what, x.goes(1, what), hour1[what]);
                is("2 hours, " + what, x.goes(2, what), hour2[what]);
            }
            is("all bonded, then out", x.goes(6, 1), 12);
            TearCustoms y = new TearCustoms();
            y.traveller(5, 3, 100);
            y.officer(2, 7, 4);
            y.set(1, 0, 2);
            y.set(3, 0, 8);
            y.act(0, 0, 2);
            Check.fine(y, 0, "find 500 when nose=7 and soft=4 and tired=8 and grip=3 and gate=2; find 0;", 2);
            is("rate by cause", y.goes(1, 0), 12);
            y.act(5, 2, 0);
            is("closed", y.goes(60, 1), 0);
            is("none is bonded then", x.goes(6, 3), 0);
            is("five hours: the last four are bonded", x.goes(5, 3), 4);
        });
    }

    private static void goesLeavesAll() {
        holds(16, "IN THOUGHT (nothing of it stays; no DRAWS", x -> {
            Seen.fill(x);
            Check.fine(x, 2, "at 0 send 1 to 1; at 0 close 3; at 0 move 1 to 0;", 3);
            x.act(0, 2, 2);
            unchanged(x, () -> {
                is("two are out", x.goes(60, 1), 2);
                x.rate(1);
                x.ordered(0);
                x.hands(1);
                x.suspects(1);
                x.driest(0, 1, 99, 1);
            });
            is("no lines", x.look(8), 1);
            int state = x.look(9);
            x.goes(3, 0);
            is("no draws", x.look(9), state);
            is("to be undone", x.look(14), 1);
        });
    }

    private static void rate() {
        holds(17, "RATE: the r 0 .. 99 for which r times WET of all not OUT", x -> {
            is("nobody", x.rate(0), 0);
            is("nobody", x.rate(1), 0);
            x.traveller(0, 0, 9999);
            is("dry", x.rate(0), 0);
            is("dry", x.rate(1), 0);
            x.set(1, 0, 1);
            is("the greatest", x.rate(0), 99);
            is("its sum", x.rate(1), 99);
            x.officer(0, 0, 0);
            Check.fine(x, 0, "find 0;", 1);
            x.weigh(0, 0);
            x.set(1, 0, 99);
            is("out", x.rate(0), 0);
            is("out", x.rate(1), 0);
        });
        holds(17, "of those with COIN for it alone", x -> {
            x.traveller(0, 0, 1);
            x.set(1, 0, 1);
            is("one of one", x.rate(0), 1);
            is("one of one", x.rate(1), 1);
            x.set(0, 0, 20);
            x.set(1, 0, 10);
            is("all of it", x.rate(0), 2);
            is("all of it", x.rate(1), 20);
            x.set(0, 0, 19);
            is("one too few", x.rate(0), 1);
            is("one too few", x.rate(1), 10);
            x.set(0, 0, 9);
            is("not even one", x.rate(0), 0);
            is("not even one", x.rate(1), 0);
        });
        holds(17, "is most together: of several the least; that sum.", x -> {
            x.traveller(0, 0, 10);
            x.traveller(0, 0, 20);
            x.set(1, 0, 10);
            x.set(1, 1, 10);
            is("20 by 1 and by 2", x.rate(0), 1);
            is("20", x.rate(1), 20);
            for (int t = 2; t < 12; t++) {
                x.traveller(0, 0, 9999);
                x.set(1, t, 99);
            }
            is("the greatest", x.rate(0), 99);
            is("ten times 9801", x.rate(1), 98010);
        });
        holds(17, "NONE for another what.", x -> {
            for (int what : new int[] {-1, 2, LEAST, MOST}) {
                is("rate(" + what + ")", x.rate(what), NONE);
            }
        });
    }

    /** What is just beyond these bounds is refused, and what stands on them taken. */
    private static void order() {
        holds(18, "up to 8 told couples of WET 0 .. 99 and weep 0 .. 9", x -> {
            is("the least", x.order(0, 0, 1), 1);
            is("the most", x.order(99, 9, 1), 2);
            for (int v : new int[] {100, -2, LEAST, MOST}) {
                is("wet " + v, x.order(v, 0, 1), NONE);
            }
            for (int v : new int[] {10, -1, LEAST, MOST}) {
                is("weep " + v, x.order(0, v, 1), NONE);
            }
            is("the third", x.order(1, 1, 1), 3);
        });
        holds(18, "rates told with them 1 .. 9 each", x -> {
            is("rate 1", x.order(1, 1, 1), 1);
            is("rate 9", x.order(1, 1, 9), 2);
            for (int v : new int[] {0, 10, -1, LEAST, MOST}) {
                is("rate " + v, x.order(1, 1, v), NONE);
            }
            is("sum", x.ordered(0), 11);
        });
        holds(18, "(wet NONE: none is then)", x -> {
            is("of none", x.order(NONE, 0, 1), 0);
            x.order(5, 5, 5);
            is("whatever else is told", x.order(NONE, -1, 0), 0);
            is("none", x.ordered(1), NONE);
            x.order(6, 6, 6);
            is("whatever else is told", x.order(NONE, MOST, LEAST), 0);
            is("none", x.ordered(0), 0);
            is("the first again", x.order(7, 7, 7), 1);
            is("of it alone", x.ordered(0), 49);
        });
        holds(18, "NONE if one can't be, or there are eight.", x -> {
            Seen.fill(x);
            for (int i = 3; i <= 8; i++) {
                is("order", x.order(i, 1, 1), i);
            }
            x.act(5, 0, 0);
            unchanged(x, () -> {
                is("a ninth", x.order(99, 9, 9), NONE);
                is("one that can't be", x.order(100, 0, 1), NONE);
            });
            is("none", x.order(NONE, 0, 0), 0);
            is("one again", x.order(1, 1, 1), 1);
        });
    }

    private static void ordered() {
        holds(19, "1 the first one (NONE without any).", x -> {
            is("none", x.ordered(1), NONE);
            is("no sum", x.ordered(0), 0);
            x.order(0, 0, 1);
            is("one", x.ordered(1), 0);
            x.order(NONE, 0, 0);
            is("none", x.ordered(1), NONE);
        });
        holds(19, "the i-th (0 the first) has wept i times more", x -> {
            x.order(10, 3, 2);
            is("the first has not wept more", x.ordered(0), 20);
            x.order(10, 3, 2);
            is("the second once", x.ordered(0), 46);
            for (int i = 2; i < 8; i++) {
                x.order(99, 9, 9);
            }
            // Six with 81 an hour go first, then two with 6: 99 is no bound here, for none is told.
            is("eight", x.ordered(0), 6 * 891 + 81 * 15 + 40 + 6 * 13);
            is("the first of the six", x.ordered(1), 2);
        });
        holds(19, "(of several orders the lesser number ahead)", x -> {
            x.order(0, 0, 9);
            x.order(50, 2, 3);
            x.order(9, 6, 1);
            x.order(0, 1, 6);
            is("three with 6 an hour", x.ordered(1), 1);
            x.order(NONE, 0, 0);
            x.order(0, 5, 1);
            x.order(0, 3, 2);
            is("one more an hour goes first", x.ordered(1), 1);
            is("and the other one waits", x.ordered(0), 5);
            x.order(NONE, 0, 0);
            x.order(99, 0, 9);
            x.order(1, 0, 1);
            is("all alike", x.ordered(1), 0);
        });
        holds(19, "NONE for another what.", x -> {
            x.order(1, 1, 1);
            for (int what : new int[] {-1, 2, LEAST, MOST}) {
                is("ordered(" + what + ")", x.ordered(what), NONE);
            }
        });
    }

    private static void hand() {
        holds(20, "child a (0 .. 5) can go with b (0 .. 5)", x -> {
            is("0 with 5", x.hand(0, 5), 1);
            is("5 with 0", x.hand(5, 0), 2);
            for (int v : new int[] {6, -2, LEAST, MOST}) {
                is("child " + v, x.hand(v, 0), NONE);
            }
            for (int v : new int[] {6, -1, LEAST, MOST}) {
                is("with " + v, x.hand(0, v), NONE);
            }
            is("two", x.hands(0), 2);
        });
        holds(20, "HANDS: children and grown ones by told couples, up to 16", x -> {
            for (int i = 0; i < 16; i++) {
                is("hand", x.hand(i / 6, i % 6), i + 1);
            }
            is("three children with any of six or four", x.hands(0), 3);
            is("the last ones count too", x.hands(1), 5 * 4 * 4);
            is("a seventeenth", x.hand(3, 3), NONE);
            is("counts not", x.hands(0), 3);
        });
        holds(20, "(a NONE: none is then)", x -> {
            is("of none", x.hand(NONE, 0), 0);
            x.hand(1, 1);
            is("whatever b", x.hand(NONE, LEAST), 0);
            is("none", x.hands(0), 0);
            is("the first again", x.hand(2, 2), 1);
            is("whatever b", x.hand(NONE, 6), 0);
            is("none", x.hands(0), 0);
        });
        holds(20, "NONE if one can't be, or there are sixteen.", x -> {
            Seen.fill(x);
            for (int i = 2; i <= 16; i++) {
                is("hand", x.hand(1, 2), i);
            }
            x.act(5, 0, 0);
            unchanged(x, () -> {
                is("a seventeenth", x.hand(3, 3), NONE);
                is("one that can't be", x.hand(6, 6), NONE);
            });
            is("none", x.hand(NONE, 0), 0);
            is("one again", x.hand(3, 3), 1);
        });
    }

    private static void hands() {
        holds(21, "the most children who go, each with another one: how many; in how many ways so many.", x -> {
            is("none", x.hands(0), 0);
            is("in one way", x.hands(1), 1);
            x.hand(0, 0);
            x.hand(0, 0);
            is("one told twice", x.hands(0), 1);
            is("in one way", x.hands(1), 1);
            x.hand(1, 0);
            is("two by one hand", x.hands(0), 1);
            is("in two ways", x.hands(1), 2);
            x.hand(NONE, 0);
            for (int i = 0; i < 6; i++) {
                x.hand(i, i);
                x.hand(i, (i + 1) % 6);
            }
            is("all six", x.hands(0), 6);
            is("round either way", x.hands(1), 2);
            x.hand(NONE, 0);
            for (int i = 0; i < 16; i++) {
                x.hand(2 + i / 4, 2 + i % 4);
            }
            is("four", x.hands(0), 4);
            is("in 24 ways", x.hands(1), 24);
        });
        holds(21, "NONE for another what.", x -> {
            x.hand(1, 1);
            for (int what : new int[] {-1, 2, LEAST, MOST}) {
                is("hands(" + what + ")", x.hands(what), NONE);
            }
        });
    }

    private static void weight() {
        holds(22, "up to 8 told weights 1 .. 40", x -> {
            is("1", x.weight(1), 1);
            is("40", x.weight(40), 2);
            for (int v : new int[] {0, 41, -2, LEAST, MOST}) {
                is("weight(" + v + ")", x.weight(v), NONE);
            }
            is("both in one", x.crates(41, 0), 1);
            is("not in one", x.crates(40, 0), 2);
        });
        holds(22, "A weight for CRATES (NONE: none is then): how many;", x -> {
            is("of none", x.weight(NONE), 0);
            x.weight(9);
            is("none", x.weight(NONE), 0);
            is("no crates", x.crates(1, 0), 0);
            is("none fit", x.crates(99, 1), 0);
            is("the first again", x.weight(3), 1);
        });
        holds(22, "NONE if one can't be, or there are eight.", x -> {
            Seen.fill(x);
            for (int i = 3; i <= 8; i++) {
                is("weight", x.weight(i), i);
            }
            x.act(5, 0, 0);
            unchanged(x, () -> {
                is("a ninth", x.weight(1), NONE);
                is("one that can't be", x.weight(41), NONE);
            });
            is("none", x.weight(NONE), 0);
            is("one again", x.weight(1), 1);
        });
    }

    private static void crates() {
        holds(23, "CRATES of c (1 .. 99)", x -> {
            x.weight(1);
            x.weight(1);
            is("of 1", x.crates(1, 0), 2);
            is("of 99", x.crates(99, 0), 1);
            is("fit 1", x.crates(1, 1), 1);
            is("fit 99", x.crates(99, 1), 2);
            for (int c : new int[] {0, 100, -1, LEAST, MOST}) {
                is("crates(" + c + ", 0)", x.crates(c, 0), NONE);
                is("crates(" + c + ", 1)", x.crates(c, 1), NONE);
            }
        });
        holds(23, "the fewest crates of c at most each", x -> {
            is("none", x.crates(1, 0), 0);
            for (int i = 0; i < 8; i++) {
                x.weight(40);
                is("one each", x.crates(79, 0), i + 1);
                is("two each", x.crates(80, 0), i / 2 + 1);
                is("two each", x.crates(99, 0), i / 2 + 1);
            }
            x.weight(NONE);
            for (int v : new int[] {3, 3, 3, 4, 4, 5, 5, 6}) {
                x.weight(v);
            }
            is("full to the last", x.crates(11, 0), 3);
            is("one less", x.crates(10, 0), 4);
            x.weight(NONE);
            x.weight(40);
            x.weight(40);
            x.weight(19);
            is("99 in one of 99", x.crates(99, 0), 1);
            is("98 is too small", x.crates(98, 0), 2);
            x.weight(NONE);
            for (int i = 1; i <= 8; i++) {
                x.weight(1);
                is("each in one of its own", x.crates(1, 0), i);
                is("all in one", x.crates(8, 0), 1);
            }
        });
        holds(23, "how many of the weights fit one crate at most (the most of them)", x -> {
            is("none", x.crates(99, 1), 0);
            x.weight(40);
            x.weight(5);
            x.weight(6);
            is("not one", x.crates(4, 1), 0);
            is("the lightest", x.crates(5, 1), 1);
            is("one too little for two", x.crates(10, 1), 1);
            is("two", x.crates(11, 1), 2);
            is("all", x.crates(51, 1), 3);
        });
        holds(23, "NONE if one is too heavy (0), c can't be, or another what.", x -> {
            x.weight(20);
            x.weight(21);
            is("too heavy", x.crates(20, 0), NONE);
            x.weight(19);
            is("one of three is too heavy", x.crates(20, 0), NONE);
            x.weight(NONE);
            x.weight(40);
            is("one alone is too heavy", x.crates(39, 0), NONE);
            is("none fits", x.crates(39, 1), 0);
            x.weight(20);
            is("the first of two is too heavy", x.crates(39, 0), NONE);
            x.weight(NONE);
            x.weight(20);
            x.weight(21);
            is("one fits all the same", x.crates(20, 1), 1);
            is("not too heavy", x.crates(21, 0), 2);
            for (int what : new int[] {-1, 2, LEAST, MOST}) {
                is("crates(99, " + what + ")", x.crates(99, what), NONE);
                is("crates(0, " + what + ")", x.crates(0, what), NONE);
            }
        });
    }

    private static void bag() {
        holds(24, "BAGS, up to 10 told (weights 1 .. 99)", x -> {
            is("1", x.bag(1), 1);
            is("99", x.bag(99), 2);
            for (int v : new int[] {0, 100, -2, LEAST, MOST}) {
                is("bag(" + v + ")", x.bag(v), NONE);
            }
            is("two", x.suspects(0), 3);
            is("both", x.weighed(3, 107), 1);
            is("both may be", x.suspects(0), 3);
        });
        holds(24, "A BAG (NONE: no BAGS and nothing WEIGHED is then): how many;", x -> {
            is("of none", x.bag(NONE), 0);
            x.bag(5);
            x.bag(5);
            x.weighed(1, 12);
            x.weighed(2, 12);
            is("no bag", x.suspects(0), 0);
            is("none", x.bag(NONE), 0);
            is("none is weighed of", x.weighed(1, 5), NONE);
            is("the first again", x.bag(9), 1);
            is("nothing is weighed", x.suspects(0), 1);
            is("the first weighing again", x.weighed(1, 16), 1);
        });
        holds(24, "NONE if one can't be, or there are ten.", x -> {
            Seen.fill(x);
            for (int i = 4; i <= 10; i++) {
                is("bag", x.bag(i), i);
            }
            x.act(5, 0, 0);
            unchanged(x, () -> {
                is("an eleventh", x.bag(1), NONE);
                is("one that can't be", x.bag(100), NONE);
            });
            is("suspects", x.suspects(0), 1022);
            is("none", x.bag(NONE), 0);
            is("one again", x.bag(1), 1);
        });
    }

    private static void weighed() {
        holds(25, "WEIGHED: a set weighed so much (0 .. 9999): how many;", x -> {
            x.bag(1);
            is("0", x.weighed(1, 0), 1);
            is("9999", x.weighed(1, 9999), 2);
            for (int v : new int[] {-1, 10000, LEAST, MOST}) {
                is("weighed(1, " + v + ")", x.weighed(1, v), NONE);
            }
            is("the third", x.weighed(1, 8), 3);
        });
        holds(25, "NONE if one can't be (other bits), or there are six.", x -> {
            is("no bags", x.weighed(1, 5), NONE);
            Seen.fill(x);
            unchanged(x, () -> {
                for (int bags : new int[] {8, 9, 15, 1023, -1, LEAST, MOST}) {
                    is("weighed(" + bags + ", 0)", x.weighed(bags, 0), NONE);
                }
            });
            for (int i = 2; i <= 6; i++) {
                is("weighed", x.weighed(1, 7), i);
            }
            x.act(5, 0, 0);
            unchanged(x, () -> is("a seventh", x.weighed(2, 8), NONE));
            is("suspects", x.suspects(0), 6);
        });
        holds(25, "WEIGHED, up to 6 told: a set of BAGS weighed so much together.", x -> {
            for (int i = 0; i < 7; i++) {
                x.bag(10 + i);
            }
            for (int i = 0; i < 6; i++) {
                is("weighed", x.weighed(1 << i, 10 + i), i + 1);
                is("one less", x.suspects(0), 127 & -2 << i);
            }
            is("a seventh", x.weighed(64, 16), NONE);
            is("does not count", x.suspects(0), 64);
            is("another bag", x.bag(1), 8);
            is("is a suspect", x.suspects(0), 192);
            is("none", x.bag(NONE), 0);
            is("a bag", x.bag(1), 1);
            is("the first weighing", x.weighed(1, 8), 1);
        });
        holds(25, "(other bits)", x -> {
            for (int i = 1; i <= 10; i++) {
                is("a bit too many", x.weighed(1 << i - 1, 0), NONE);
                x.bag(1);
            }
            is("all ten", x.weighed(1023, 17), 1);
            is("the last alone", x.weighed(512, 8), 2);
            is("the last", x.suspects(0), 512);
            is("an eleventh bit", x.weighed(1024, 0), NONE);
            is("an eleventh bit", x.weighed(2047, 0), NONE);
        });
    }

    private static void suspects() {
        holds(26, "it weighs just 7 more than told", x -> {
            x.bag(10);
            x.bag(20);
            x.bag(30);
            for (int more = 5; more <= 8; more++) {
                x.image(true);
                x.weighed(1, 10 + more);
                is(more + " more", x.suspects(0), more == 7 ? 1 : 0);
                x.image(false);
            }
            x.weighed(1, 10);
            is("as told", x.suspects(0), 6);
            x.weighed(6, 57);
            is("together", x.suspects(0), 6);
            x.weighed(2, 20);
            is("the last", x.suspects(0), 4);
            x.weighed(4, 30);
            is("none is left", x.suspects(0), 0);
        });
        holds(26, "SUSPECTS: BAGS that all this allows (a set).", x -> {
            is("none", x.suspects(0), 0);
            for (int i = 0; i < 10; i++) {
                x.bag(99);
                is("all", x.suspects(0), (2 << i) - 1);
            }
            x.weighed(1023, 997);
            is("all", x.suspects(0), 1023);
            x.weighed(1023, 990);
            is("none", x.suspects(0), 0);
        });
        holds(26, "(NONE: fewer than two SUSPECTS)", x -> {
            is("no bag", x.suspects(1), NONE);
            x.bag(5);
            is("one bag", x.suspects(1), NONE);
            x.bag(6);
            is("two", x.suspects(1), 3);
            x.weighed(1, 12);
            is("one suspect", x.suspects(1), NONE);
            x.weighed(1, 5);
            is("none", x.suspects(1), NONE);
        });
        holds(26, "NONE for another what.", x -> {
            x.bag(1);
            x.bag(1);
            for (int what : new int[] {-1, 2, LEAST, MOST}) {
                is("suspects(" + what + ")", x.suspects(what), NONE);
            }
        });
    }

    private static void next() {
        holds(26, "NEXT: the set of two or three BAGS for which, of these, the greater number of those in it and those not is least", x -> {
            for (int i = 0; i < 10; i++) {
                x.bag(i + 1);
            }
            is("three of ten", x.suspects(1), 7);
            x.weighed(1, 1);
            is("three of nine", x.suspects(1), 14);
            x.weighed(1023 - 63, 34 + 7);
            is("two of four", x.suspects(1), 192);
            x.weighed(512, 10);
            is("one of three, and one who is none", x.suspects(0), 448);
            is("one of three, and one who is none", x.suspects(1), 65);
        });
        holds(26, "of several the fewest BAGS, then the least set.", x -> {
            for (int i = 0; i < 4; i++) {
                x.bag(9);
            }
            is("two of four", x.suspects(1), 3);
            x.bag(9);
            is("two of five, not three", x.suspects(1), 3);
            x.bag(9);
            is("three of six", x.suspects(1), 7);
            x.weighed(1 + 2, 25);
            is("two are left", x.suspects(0), 3);
            is("one of them with the least other one", x.suspects(1), 5);
        });
    }

    private static void driest() {
        holds(27, "by 12 roads at most", x -> {
            Check.fine(x, 3, "road 0 1 dry 1 wet 0; road 1 0 dry 1 wet 0;", 2);
            is("twelve", x.driest(0, 0, 99, 0), 87);
            is("twelve", x.driest(0, 0, 99, 1), 12);
            is("eleven", x.driest(0, 1, 99, 0), 88);
            is("eleven", x.driest(0, 1, 99, 1), 11);
            StringBuilder line = new StringBuilder();
            for (int p = 0; p < 9; p++) {
                line.append("road ").append(p).append(' ').append(p + 1).append(" dry 0 wet 1;");
            }
            Check.fine(x, 3, line.toString(), 9);
            is("nine in a row", x.driest(0, 9, 0, 1), 9);
            is("nine in a row", x.driest(0, 9, 0, 0), 9);
        });
        holds(27, "the least WET there can be at the end", x -> {
            Check.fine(x, 3, "road 0 1 dry 0 wet 5; road 0 2 dry 9 wet 0; road 2 1 dry 0 wet 5;", 3);
            is("round about", x.driest(0, 1, 9, 0), 5);
            is("by two", x.driest(0, 1, 9, 1), 2);
            is("of the same the fewest roads", x.driest(0, 1, 0, 1), 1);
            String[] ways = {"road 0 1 dry 0 wet 5;road 1 3 dry 0 wet 0;", "road 0 2 dry 0 wet 4;road 2 3 dry 0 wet 0;"};
            Check.fine(x, 3, ways[0] + ways[1], 4);
            is("of two by as many roads the drier one", x.driest(0, 3, 0, 0), 4);
            Check.fine(x, 3, ways[1] + ways[0], 4);
            is("told the other way round", x.driest(0, 3, 0, 0), 4);
            Check.fine(x, 3, "road 0 1 dry 0 wet 5; road 0 2 dry 0 wet 4; road 1 3 dry 0 wet 0; road 2 3 dry 0 wet 0;", 4);
            is("dry", x.driest(0, 1, 0, 0), 5);
        });
        holds(27, "(alike: w, 0 roads can be)", x -> {
            for (int w : new int[] {0, 99}) {
                is("where one is", x.driest(3, 3, w, 0), w);
                is("by none", x.driest(3, 3, w, 1), 0);
            }
            Check.fine(x, 3, "road 3 4 dry 10 wet 0; road 4 3 dry 0 wet 10;", 2);
            is("going round brings nothing", x.driest(3, 3, 50, 0), 50);
            is("by none", x.driest(3, 3, 50, 1), 0);
            Check.fine(x, 3, "road 3 4 dry 9 wet 0; road 4 3 dry 0 wet 8;", 2);
            is("going round is drier", x.driest(3, 3, 50, 0), 44);
            is("by twelve", x.driest(3, 3, 50, 1), 12);
            is("wetter when dry", x.driest(3, 3, 0, 0), 0);
            is("by none", x.driest(3, 3, 0, 1), 0);
        });
    }

    private static void driestHeld() {
        holds(27, "along each road WET is less by dry, then more by wet (0 .. 99 held)", x -> {
            Check.fine(x, 3, "road 0 1 dry 99 wet 5; road 0 2 dry 0 wet 99; road 2 3 dry 98 wet 0; road 0 4 dry 50 wet 99;", 4);
            is("not below 0 ahead of wet", x.driest(0, 1, 3, 0), 5);
            is("just 0", x.driest(0, 1, 99, 0), 5);
            is("not above 99", x.driest(0, 2, 50, 0), 99);
            is("from 99 on", x.driest(0, 3, 50, 0), 1);
            is("just 99", x.driest(0, 4, 50, 0), 99);
            is("not above 99", x.driest(0, 4, 51, 0), 99);
        });
        holds(27, "with WET w (0 .. 99) at first", x -> {
            Check.fine(x, 3, "road 0 9 dry 1 wet 0;", 1);
            is("0", x.driest(0, 9, 0, 0), 0);
            is("99", x.driest(0, 9, 99, 0), 98);
            for (int w : new int[] {-1, 100, LEAST, MOST}) {
                is("w " + w, x.driest(0, 9, w, 0), NONE);
                is("w " + w, x.driest(0, 0, w, 1), NONE);
            }
        });
    }

    private static void driestRefused() {
        holds(27, "NONE if there is no way, one can't be", x -> {
            is("no roads", x.driest(0, 1, 5, 0), NONE);
            Check.fine(x, 3, "road 0 1 dry 1 wet 0; road 2 0 dry 0 wet 0;", 2);
            is("one way", x.driest(1, 0, 5, 0), NONE);
            is("one way", x.driest(1, 0, 5, 1), NONE);
            is("no way", x.driest(0, 2, 5, 1), NONE);
            for (int p : new int[] {-1, 10, LEAST, MOST}) {
                is("from " + p, x.driest(p, 0, 5, 0), NONE);
                is("to " + p, x.driest(0, p, 5, 0), NONE);
                is("both " + p, x.driest(p, p, 5, 0), NONE);
            }
            is("by two", x.driest(2, 1, 5, 1), 2);
        });
        holds(27, "or another what.", x -> {
            for (int what : new int[] {-1, 2, LEAST, MOST}) {
                is("what " + what, x.driest(0, 0, 5, what), NONE);
            }
        });
    }
}
