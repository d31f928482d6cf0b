/** Sentences that name boundary cases of promises 7 and 8: weigh and hours. */
final class HourBounds extends Bounds {
    private HourBounds() {
    }

    static void all() {
        drawOfWeighing();
        chargeOfWeighing();
        afterWeighing();
        weighRefused();
        hours();
        latestHour();
        shifts();
        weighingOfHours();
        weepingOfHours();
        restingOfHours();
    }

    /** So many travellers with this coin and WET, and an officer at gate 0. */
    private static void people(TearCustoms x, int travellers, int coin, int wet) {
        for (int t = 0; t < travellers; t++) {
            x.traveller(0, 9, coin);
            x.set(1, t, wet);
        }
        x.officer(0, 0, 0);
    }

    /** What is charged by a law that finds everything. */
    private static void law(TearCustoms x, String rate) {
        Check.fine(x, 0, "find 1000; rate " + rate + ";", 2);
    }

    private static void drawOfWeighing() {
        // From state 0 the draws of 1000 are 563, 577, 494, 947.
        holds(7, "a DRAW of 1000: below find the charge is rate times WET, and BASIN is WET more", x -> {
            people(x, 4, 100, 10);
            int[] find = {563, 578, 494, 948};
            int[] paid = {0, 10, 0, 10};
            for (int t = 0; t < 4; t++) {
                Check.fine(x, 0, "find " + find[t] + ";", 1);
                is("paid by " + t, x.weigh(t, 0), paid[t]);
            }
            is("basin", x.look(4), 20);
            is("smuggled", x.look(5), 20);
        });
        holds(7, "else it is 0, and SMUGGLED is WET more.", x -> {
            people(x, 3, 0, 99);
            x.set(1, 2, 0);
            Check.fine(x, 0, "find 0;", 1);
            for (int t = 0; t < 3; t++) {
                is("paid", x.weigh(t, 0), 0);
                is("out without coin", x.of(t, 5), 1);
            }
            is("smuggled", x.look(5), 198);
            is("basin", x.look(4), 0);
        });
        // The least and the greatest draw.
        holds(7, "a DRAW of 1000: below find", x -> {
            people(x, 2, 1, 1);
            Check.fine(x, 0, "find 1000;", 1);
            x.state(1188);
            is("999 is below 1000", x.weigh(0, 0), 1);
            Check.fine(x, 0, "find 0;", 1);
            x.state(457);
            is("0 is not below 0", x.weigh(1, 0), 0);
        });
        holds(7, "(All asked ahead of the DRAW.)", x -> {
            people(x, 1, 50, 20);
            x.set(3, 0, 7);
            Check.fine(x, 0, "rate 2 when wet=20 and coin=50 and tired=7; rate 0; find 1000 when wet=20 and tired=7; find 0;", 4);
            is("paid", x.weigh(0, 0), 40);
        });
    }

    private static void chargeOfWeighing() {
        holds(7, "Is the charge above COIN: BOND 1", x -> {
            people(x, 3, 30, 10);
            law(x, "3");
            x.set(0, 1, 29);
            x.set(0, 2, 31);
            is("all he has", x.weigh(0, 0), 30);
            is("out", x.of(0, 5), 1);
            is("bond", x.of(0, 6), 0);
            is("one too few", x.weigh(1, 0), 29);
            is("not out", x.of(1, 5), 0);
            is("bond", x.of(1, 6), 1);
            is("one left", x.weigh(2, 0), 30);
            is("out", x.of(2, 5), 1);
            is("coin", x.of(2, 2), 1);
        });
        holds(7, "COIN goes to TREASURY whole (COIN 0)", x -> {
            people(x, 2, 0, 1);
            law(x, "99");
            x.set(0, 1, 98);
            is("who has none pays none", x.weigh(0, 0), 0);
            is("and is bonded", x.of(0, 6), 1);
            is("who has too little pays it", x.weigh(1, 0), 98);
            is("coin", x.of(1, 2), 0);
            is("treasury", x.look(3), 98);
        });
        holds(7, "else COIN is less, TREASURY more by it, BOND 0, he is OUT, AT none.", x -> {
            people(x, 1, 5, 3);
            law(x, "2");
            x.act(0, 0, 3);
            is("bonded", x.weigh(0, 0), 5);
            is("still at", x.of(0, 4), 3);
            is("dry, without coin: out", x.weigh(0, 0), 0);
            is("bond", x.of(0, 6), 0);
            is("out", x.of(0, 5), 1);
            is("at", x.of(0, 4), NONE);
            is("treasury", x.look(3), 5);
        });
        holds(7, "the charge is rate times WET", x -> {
            people(x, 1, 9999, 99);
            law(x, "99");
            is("the greatest charge", x.weigh(0, 0), 9801);
            is("coin", x.of(0, 2), 198);
            is("treasury", x.look(3), 9801);
            is("basin", x.look(4), 99);
        });
    }

    private static void afterWeighing() {
        holds(7, "WET is 0 either way.", x -> {
            people(x, 3, 0, 99);
            law(x, "1");
            x.weigh(0, 0);
            is("bonded", x.of(0, 3), 0);
            x.set(0, 1, 99);
            x.weigh(1, 0);
            is("let out", x.of(1, 3), 0);
            Check.fine(x, 0, "find 0;", 1);
            x.weigh(2, 0);
            is("smuggled", x.of(2, 3), 0);
        });
        holds(7, "TIRED of the OFFICER is 1 more (9 at most).", x -> {
            people(x, 3, 0, 0);
            int[] tired = {0, 8, 9};
            int[] then = {1, 9, 9};
            for (int t = 0; t < 3; t++) {
                x.set(3, 0, tired[t]);
                is("weigh", x.weigh(t, 0), 0);
                is("tired", x.who(0, 3), then[t]);
            }
        });
        holds(7, "to WEIGH (whatever GATE, AT, TIRED).", x -> {
            people(x, 3, 0, 0);
            x.set(3, 0, 9);
            x.act(0, 0, 3);
            x.act(0, 1, 0);
            x.act(5, 0, 0);
            for (int t = 0; t < 3; t++) {
                is("weigh", x.weigh(t, 0), 0);
                is("out", x.of(t, 5), 1);
            }
        });
    }

    private static void weighRefused() {
        holds(7, "NONE if he is OUT, or there is none such.", x -> {
            Seen.fill(x);
            is("0 is out", x.of(0, 5), 1);
            unchanged(x, () -> {
                is("one out", x.weigh(0, 0), NONE);
                for (int t : new int[] {-1, 3, 12, 32, LEAST, MOST}) {
                    is("traveller " + t, x.weigh(t, 0), NONE);
                }
                for (int o : new int[] {-1, 2, 6, LEAST, MOST}) {
                    is("officer " + o, x.weigh(1, o), NONE);
                }
            });
            is("the last ones there are", x.weigh(2, 1), 0);
        });
        holds(7, "`int weigh(int traveller, int officer)`: To WEIGH: what he paid;", x -> {
            is("nobody at all", x.weigh(0, 0), NONE);
            x.traveller(0, 0, 0);
            is("no officer", x.weigh(0, 0), NONE);
            is("no draw", x.look(9), 0);
            x.officer(3, 9, 9);
            is("dry", x.weigh(0, 0), 0);
        });
    }

    private static void hours() {
        holds(8, "HOURS go by (1 .. 60): how many came OUT.", x -> {
            people(x, 3, 0, 0);
            x.act(0, 0, 0);
            x.act(0, 1, 0);
            is("one hour", x.hours(1), 1);
            is("hour", x.look(2), 1);
            is("sixty hours", x.hours(60), 1);
            is("hour", x.look(2), 61);
            is("nobody is left at a gate", x.hours(60), 0);
            is("out", x.look(7), 3);
        });
        holds(8, "NONE, and nothing is done, if one can't be", x -> {
            Seen.fill(x);
            unchanged(x, () -> {
                for (int n : new int[] {0, -1, 61, LEAST, MOST}) {
                    is("hours(" + n + ")", x.hours(n), NONE);
                }
            });
        });
    }

    private static void latestHour() {
        holds(8, "or HOUR would be above 9999.", x -> {
            for (int i = 0; i < 165; i++) {
                x.hours(60);
            }
            Seen.fill(x);
            x.hours(40);
            is("hour", x.look(2), 9940);
            unchanged(x, () -> is("to 10000", x.hours(60), NONE));
            is("to 9999", x.hours(59), 0);
            is("hour", x.look(2), 9999);
            int wet = x.of(1, 3);
            is("beyond", x.hours(1), NONE);
            is("beyond", x.hours(60), NONE);
            is("hour", x.look(2), 9999);
            is("wet", x.of(1, 3), wet);
            is("undo", x.undo(), true);
            is("hour", x.look(2), 9998);
            is("again", x.hours(1), 0);
        });
        holds(8, "(e) HOUR is one more.", x -> {
            is("hours", x.hours(24), 0);
            is("it goes on behind a day", x.look(2), 24);
            is("hours", x.hours(1), 0);
            is("hour", x.look(2), 25);
        });
    }

    private static void shifts() {
        holds(8, "(a) Line by line of SHIFTS for it what can be done.", x -> {
            people(x, 2, 0, 0);
            is("out", x.weigh(0, 0), 0);
            x.set(1, 1, 40);
            Check.fine(x, 2, "at 0 send 0 to 1; at 0 joke 0; at 0 onion 0; at 0 open 0; at 0 close 1; at 0 close 1; at 0 joke 1;"
                    + "at 0 onion 1; at 1 close 2; at 0 move 0 to 3;", 10);
            is("hours", x.hours(1), 0);
            is("one out is not sent", x.of(0, 4), NONE);
            is("one out stays dry", x.of(0, 3), 0);
            is("open and closed already", x.look(6), 13);
            is("halved, then 20 more", x.of(1, 3), 40);
            is("moved by the last line", x.who(0, 0), 3);
            is("hours", x.hours(1), 0);
            is("the next hour's", x.look(6), 9);
        });
        holds(8, "(HOUR 0 .. 999.)", x -> {
            Check.fine(x, 2, "at 0 close 0; at 999 close 1;", 2);
            x.hours(1);
            is("at 0", x.look(6), 14);
            x.act(4, 0, 0);
            for (int i = 0; i < 16; i++) {
                x.hours(60);
            }
            x.hours(38);
            is("hour", x.look(2), 999);
            is("not before", x.look(6), 15);
            x.hours(1);
            is("at 999", x.look(6), 13);
            x.act(4, 1, 0);
            for (int i = 0; i < 17; i++) {
                x.hours(60);
            }
            is("behind 1999", x.look(2), 2020);
            is("once alone", x.look(6), 15);
        });
    }

    private static void weighingOfHours() {
        holds(8, "(b) OFFICER by OFFICER with TIRED below 9 whose GATE is OPEN", x -> {
            people(x, 4, 0, 0);
            x.officer(1, 0, 0);
            x.officer(2, 0, 0);
            x.act(0, 0, 0);
            x.act(0, 1, 1);
            x.act(0, 2, 2);
            x.act(0, 3, 3);
            x.act(5, 2, 0);
            x.set(3, 0, 8);
            x.set(3, 1, 9);
            is("one", x.hours(1), 1);
            is("by one with TIRED 8 alone", x.look(7), 1);
            is("a closed gate", x.who(2, 3), 0);
            is("one more tired", x.who(0, 3), 9);
            is("one less tired", x.who(1, 3), 8);
            is("the next hour", x.hours(1), 1);
            is("by the other one, who has rested", x.look(7), 3);
        });
        holds(8, "the first TRAVELLER AT it that is not OUT, nor weighed this HOUR already: is weighed.", x -> {
            people(x, 4, 0, 5);
            x.officer(0, 0, 0);
            x.officer(0, 0, 0);
            law(x, "1");
            x.act(0, 1, 0);
            x.act(0, 3, 0);
            is("hours", x.hours(1), 0);
            is("lines", x.look(8), 2);
            is("first", x.book(0, 2), 1);
            is("then", x.book(1, 2), 3);
            is("both once", x.of(1, 6) + x.of(3, 6), 2);
            is("the third officer weighed nobody", x.who(2, 3), 0);
            is("not at the gate", x.of(0, 3), 5);
            is("the next hour again, and dry", x.hours(1), 2);
            is("nobody is there", x.hours(1), 0);
            is("lines", x.look(8), 4);
        });
        holds(8, "AT it that is not OUT", x -> {
            people(x, 2, 9999, 0);
            x.act(0, 0, 0);
            is("one is out", x.hours(1), 1);
            x.act(0, 1, 0);
            is("the next one is weighed, not the one who is out", x.hours(1), 1);
            is("lines", x.look(8), 2);
            is("the last", x.book(1, 2), 1);
        });
    }

    private static void weepingOfHours() {
        holds(8, "(c) TRAVELLER by TRAVELLER not OUT: WET is weep more (99 at most; asked at its turn).", x -> {
            people(x, 4, 0, 90);
            x.set(1, 1, 91);
            x.set(1, 2, 99);
            x.weigh(3, 0);
            Check.fine(x, 0, "weep 9;", 1);
            is("hours", x.hours(1), 0);
            int[] wet = {99, 99, 99, 0};
            for (int t = 0; t < 4; t++) {
                is("wet of " + t, x.of(t, 3), wet[t]);
            }
            Check.fine(x, 0, "weep 1000;", 1);
            x.set(1, 0, 1);
            is("hours", x.hours(1), 0);
            is("held to 99 twice", x.of(0, 3), 99);
        });
        holds(8, "asked at its turn", x -> {
            people(x, 2, 0, 0);
            Check.fine(x, 1, "traveller 0 with 1;", 1);
            Check.fine(x, 0, "weep 10 when kin=1 and hour=0; weep 20 when kin=1 and hour=1; weep 1;", 3);
            x.act(0, 1, 0);
            is("hours", x.hours(1), 1);
            is("his kin came out this hour", x.of(0, 3), 10);
            is("hours", x.hours(1), 0);
            is("the hour is not one more yet", x.of(0, 3), 30);
        });
    }

    private static void restingOfHours() {
        holds(8, "(d) OFFICERS who weighed nobody this HOUR are 1 less TIRED (0 at least).", x -> {
            people(x, 1, 0, 0);
            x.officer(1, 0, 0);
            x.officer(1, 0, 0);
            x.act(0, 0, 0);
            x.set(3, 0, 5);
            x.set(3, 1, 1);
            is("hours", x.hours(1), 1);
            is("weighed", x.who(0, 3), 6);
            is("rested", x.who(1, 3), 0);
            is("not below 0", x.who(2, 3), 0);
            is("hours", x.hours(60), 0);
            for (int o = 0; o < 3; o++) {
                is("not below 0", x.who(o, 3), 0);
            }
        });
    }
}
