import java.util.List;
import java.util.function.Consumer;

/** Sentences that name boundary cases of promises 38 and 39: undo and image. */
final class UndoBounds extends Bounds {
    private UndoBounds() {
    }

    static void all() {
        undoOfEach();
        sixAreKept();
        notUndoneYet();
        forgetting();
        notForgetting();
        refusedForgetsNothing();
        undoOfBook();
        imageOfNone();
        imageOfAll();
        imageButFor();
        imageOften();
    }

    /** What a deed did goes back, and it is one that can be undone. */
    private static void goesBack(TearCustoms x, String what, Runnable deed) {
        int before = x.look(14);
        unchanged(x, () -> {
            deed.run();
            is(what + " can be undone", x.look(14), before + 1);
            is(what + " is undone", x.undo(), true);
        });
    }

    private static void undoOfEach() {
        holds(38, "UNDO: the latest HOUR, SENDING, JOKE, ONION, MOVING, OPENING, CLOSING, WEIGHING not undone yet goes back", x -> {
            List<Consumer<TearCustoms>> deeds = List.of(y -> y.hours(1), y -> y.act(0, 2, 3), y -> y.act(1, 1, 0),
                    y -> y.act(2, 1, 0), y -> y.act(3, 0, 3), y -> y.act(4, 1, 0), y -> y.act(5, 2, 0), y -> y.weigh(1, 0));
            String[] names = {"an hour", "a sending", "a joke", "an onion", "a moving", "an opening", "a closing", "a weighing"};
            for (int i = 0; i < deeds.size(); i++) {
                TearCustoms y = new TearCustoms();
                Seen.fill(y);
                y.act(5, 1, 0);
                Consumer<TearCustoms> deed = deeds.get(i);
                goesBack(y, names[i], () -> deed.accept(y));
            }
        });
        holds(38, "goes back (STATE, THE BOOK, too)", x -> {
            Seen.fill(x);
            int state = x.look(9);
            int lines = x.look(8);
            x.weigh(1, 0);
            is("a draw", x.look(9) != state, true);
            is("a line", x.look(8), lines + 1);
            is("undo", x.undo(), true);
            is("state", x.look(9), state);
            is("lines", x.look(8), lines);
            is("no such line", x.book(lines, 0), NONE);
            is("the line before it", x.book(lines - 1, 2), 0);
        });
        holds(38, "WEIGHING not undone yet goes back", x -> {
            x.traveller(0, 0, 10);
            x.officer(0, 0, 0);
            x.set(1, 0, 4);
            String[] laws = {"find 0;", "find 1000; rate 1;", "find 1000; rate 9;"};
            int[][] due = {{0, 0, 4}, {4, 4, 0}, {10, 4, 0}};
            for (int i = 0; i < laws.length; i++) {
                Check.tell(x, 0, laws[i]);
                x.weigh(0, 0);
                for (int what = 3; what <= 5; what++) {
                    is("look(" + what + ")", x.look(what), due[i][what - 3]);
                }
                is("undo", x.undo(), true);
                for (int what = 3; what <= 5; what++) {
                    is("look(" + what + ") as it was", x.look(what), 0);
                }
            }
        });
    }

    private static void sixAreKept() {
        holds(38, "6 are kept", x -> {
            x.traveller(0, 0, 0);
            for (int i = 0; i < 7; i++) {
                x.act(0, 0, i % 4);
                is("kept", x.look(14), Math.min(6, i + 1));
            }
            for (int i = 5; i >= 0; i--) {
                is("undo", x.undo(), true);
                is("at", x.of(0, 4), i % 4);
            }
            is("the seventh from behind is not kept", x.undo(), false);
            is("at", x.of(0, 4), 0);
        });
        holds(38, "UNDO: the latest HOUR", x -> {
            is("hours", x.hours(60), 0);
            is("each hour is one", x.look(14), 6);
            for (int i = 1; i <= 6; i++) {
                is("undo", x.undo(), true);
                is("hour", x.look(2), 60 - i);
            }
            is("no more", x.undo(), false);
            is("hour", x.look(2), 54);
            is("hours", x.hours(1), 0);
            is("undo", x.undo(), true);
            is("hour", x.look(2), 54);
        });
        holds(38, "UNDO: true; false if there is nothing.", x -> {
            is("nothing", x.undo(), false);
            Seen.fill(x);
            is("one", x.undo(), true);
            is("two", x.undo(), true);
            unchanged(x, () -> {
                is("no more", x.undo(), false);
                is("no more", x.undo(), false);
            });
        });
    }

    private static void notUndoneYet() {
        holds(38, "not undone yet goes back", x -> {
            x.traveller(0, 0, 0);
            int[] wet = new int[20];
            int done = 0;
            // Four onions, two undone, then three more, and so on: the ring of six is gone round.
            for (int round = 0; round < 4; round++) {
                for (int i = 0; i < 4; i++) {
                    wet[done] = x.of(0, 3);
                    done++;
                    x.act(i % 2 == 0 ? 2 : 1, 0, 0);
                }
                for (int i = 0; i < 2; i++) {
                    done--;
                    is("undo", x.undo(), true);
                    is("wet", x.of(0, 3), wet[done]);
                }
            }
            is("kept", x.look(14), 4);
            for (int i = 0; i < 4; i++) {
                done--;
                is("undo", x.undo(), true);
                is("wet", x.of(0, 3), wet[done]);
            }
            is("no more", x.undo(), false);
        });
    }

    private static void forgets(String what, boolean forgets, Consumer<TearCustoms> call) {
        TearCustoms x = new TearCustoms();
        Seen.fill(x);
        is("two can be undone", x.look(14), 2);
        call.accept(x);
        is(what + ": can be undone", x.look(14), forgets ? 0 : 2);
        is(what + ": undo", x.undo(), !forgets);
    }

    private static void forgetting() {
        holds(38, "whatever else is told but THE LAW, KIN, ROADS and what is told for thought", x -> {
            forgets("STATE", true, y -> y.state(5));
            forgets("the same STATE", true, y -> y.state(y.look(9)));
            forgets("a TRAVELLER", true, y -> y.traveller(0, 0, 0));
            forgets("an OFFICER", true, y -> y.officer(0, 0, 0));
            for (int what = 0; what < 5; what++) {
                int w = what;
                forgets("set " + what, true, y -> y.set(w, 1, 1));
            }
            forgets("SHIFTS", true, y -> Check.fine(y, 2, "at 0 open 0;", 1));
            forgets("empty SHIFTS", true, y -> Check.fine(y, 2, "", 0));
            forgets("THE IMAGE gone back to", true, y -> {
                y.image(true);
                y.image(false);
            });
        });
    }

    private static void notForgetting() {
        holds(38, "what is told for thought (ORDER, HANDS, CRATES, BAGS, WEIGHED, OF, SALT, LEDGER, DRY)", x -> {
            forgets("THE LAW", false, y -> Check.fine(y, 0, "weep 1;", 1));
            forgets("KIN", false, y -> Check.fine(y, 1, "", 0));
            forgets("ROADS", false, y -> Check.fine(y, 3, "road 1 0 dry 1 wet 1;", 1));
            forgets("ORDER", false, y -> is("order", y.order(1, 1, 1), 3));
            forgets("no ORDER", false, y -> is("order", y.order(NONE, 1, 1), 0));
            forgets("HANDS", false, y -> is("hand", y.hand(1, 1), 2));
            forgets("no HANDS", false, y -> is("hand", y.hand(NONE, 1), 0));
            forgets("CRATES", false, y -> is("weight", y.weight(1), 3));
            forgets("no CRATES", false, y -> is("weight", y.weight(NONE), 0));
            forgets("BAGS", false, y -> is("bag", y.bag(1), 4));
            forgets("no BAGS", false, y -> is("bag", y.bag(NONE), 0));
            forgets("WEIGHED", false, y -> is("weighed", y.weighed(1, 1), 2));
            forgets("OF", false, y -> is("count", y.count(1, 1, 1), true));
            forgets("SALT", false, y -> is("salt", y.salt(1), 3));
            forgets("no SALT", false, y -> is("salt", y.salt(NONE), 0));
            forgets("LEDGER", false, y -> is("ledger", y.ledger(1, 1), true));
            forgets("DRY", false, y -> is("years", y.years(1, 1), true));
        });
        holds(38, "(the taking of THE IMAGE does not)", x -> {
            forgets("THE IMAGE taken", false, y -> is("image", y.image(true), true));
            Seen.fill(x);
            int lines = x.look(8);
            x.image(true);
            is("undo", x.undo(), true);
            is("undo", x.undo(), true);
            is("lines", x.look(8), lines - 1);
            is("back", x.image(false), true);
            is("lines", x.look(8), lines);
        });
        holds(38, "whatever else is told", x -> {
            forgets("asking", false, y -> {
                y.look(9);
                y.goes(60, 0);
                y.game(0);
                y.fault(0);
            });
            forgets("the TAPE", false, y -> {
                y.feed(0, 0, 0, 0, 0);
                y.end(3);
            });
            x.traveller(0, 0, 0);
            x.act(2, 0, 0);
            Check.fine(x, 0, "weep 9;", 1);
            x.order(1, 1, 1);
            is("undo", x.undo(), true);
            is("what was told for thought stays", x.ordered(1), 0);
            is("the law stays", x.look(10), 1);
        });
    }

    private static void refusedForgetsNothing() {
        holds(38, "forgets them", x -> {
            forgets("no TRAVELLER", false, y -> is("traveller", y.traveller(6, 0, 0), NONE));
            forgets("no OFFICER", false, y -> is("officer", y.officer(4, 0, 0), NONE));
            forgets("no set", false, y -> is("set", y.set(0, 3, 0), false));
            forgets("no act", false, y -> is("act", y.act(4, 0, 0), false));
            forgets("no weigh", false, y -> is("weigh", y.weigh(0, 0), NONE));
            forgets("no hours", false, y -> is("hours", y.hours(61), NONE));
            forgets("faulty SHIFTS", false, y -> Check.faulty(y, 2, "at", 1, 2));
            forgets("no TEXT", false, y -> is("text", y.text(4), NONE));
            forgets("no IMAGE", false, y -> is("image", y.image(false), false));
        });
    }

    /** 146 lines, and officers who are not tired. */
    private static void almostFillBook(TearCustoms x) {
        fillBook(x);
        x.weigh(4, 0);
        x.weigh(5, 0);
        is("lines", x.look(8), 146);
        for (int o = 0; o < 6; o++) {
            x.set(3, o, 0);
        }
    }

    private static void undoOfBook() {
        holds(38, "(STATE, THE BOOK, too)", x -> {
            almostFillBook(x);
            x.hours(1);
            is("full", x.look(8), 150);
            x.hours(1);
            is("full", x.look(8), 150);
            is("undo", x.undo(), true);
            is("full yet", x.look(8), 150);
            is("undo", x.undo(), true);
            is("as it was", x.look(8), 146);
            is("no such line", x.book(146, 0), NONE);
            is("by hand", x.weigh(5, 1), 0);
            is("a line again", x.book(146, 2), 5);
            is("no other one", x.book(147, 2), NONE);
        });
    }

    private static void imageOfNone() {
        holds(39, "THE IMAGE is taken (true), or gone back to (false): true; false if there is none.", x -> {
            Seen.fill(x);
            unchanged(x, () -> is("none", x.image(false), false));
            is("taken", x.image(true), true);
            is("gone back to", x.image(false), true);
            is("another object has none", new TearCustoms().image(false), false);
        });
        holds(39, "as it was when it was taken", x -> {
            is("taken of a new object", x.image(true), true);
            Seen.fill(x);
            x.hours(2);
            is("gone back to", x.image(false), true);
            for (int what = 0; what < 15; what++) {
                is("look(" + what + ")", x.look(what), what == 6 ? 15 : 0);
            }
            is("nobody is there", x.of(0, 0), -2);
            is("nobody is there", x.who(0, 0), NONE);
            is("no line", x.book(0, 0), NONE);
            is("the first comes again", x.traveller(1, 1, 1), 0);
        });
    }

    /** All that fill told is told otherwise. */
    private static void changeAll(TearCustoms x) {
        x.traveller(2, 2, 2);
        x.officer(3, 3, 3);
        x.hours(3);
        x.act(5, 2, 0);
        x.act(3, 0, 0);
        Check.tell(x, 0, "find 0;");
        x.set(1, 2, 9);
        is("smuggled", x.weigh(2, 1), 0);
        for (int what = 0; what < 5; what++) {
            x.set(what, 1, 1);
        }
        x.state(12345);
        Check.tell(x, 0, "weep 99; rate 98;");
        Check.tell(x, 1, "traveller 2 with 1; traveller 0 with 2;");
        Check.tell(x, 2, "");
        Check.tell(x, 3, "road 0 1 dry 0 wet 50; road 1 2 dry 0 wet 0;");
        x.order(NONE, 0, 0);
        x.hand(NONE, 0);
        x.weight(NONE);
        x.bag(NONE);
        x.count(0, 0, 500);
        x.count(3, 2, 0);
        x.salt(NONE);
        x.years(30, 0);
        for (int k = 0; k < 24; k++) {
            x.ledger(k, 1);
        }
    }

    private static void imageOfAll() {
        holds(39, "THE IMAGE: all that is and was told", x -> {
            Seen.fill(x);
            x.undo();
            x.undo();
            x.fault(0);
            Check.fine(x, 0, "weep 3; find 700;", 2);
            is("at no gate", x.of(2, 4), NONE);
            x.image(true);
            unchanged(x, () -> {
                changeAll(x);
                is("back", x.image(false), true);
            });
            is("what was weighed too", x.weighed(1, 7), 2);
            is("shifts too", x.look(12), 1);
            x.hours(2);
            is("sent at hour 1, and let out", x.of(1, 5), 1);
        });
        holds(39, "all that is", x -> {
            almostFillBook(x);
            x.hours(1);
            is("full", x.look(8), 150);
            int last = x.book(149, 2);
            int hour = x.book(149, 0);
            x.image(true);
            for (int i = 0; i < 2; i++) {
                x.undo();
            }
            is("not full", x.look(8), 146);
            x.weigh(5, 1);
            x.image(false);
            is("full", x.look(8), 150);
            is("line 149", x.book(149, 2), last);
            is("line 149", x.book(149, 0), hour);
            int[] who = {0, 1, 2, 3};
            for (int i = 0; i < 4; i++) {
                is("line " + (146 + i), x.book(146 + i, 2), who[i]);
            }
        });
    }

    private static void imageButFor() {
        holds(39, "but the TAPE, fault() and what can be undone (nothing then)", x -> {
            Seen.fill(x);
            x.image(true);
            Check.faulty(x, 0, "weep 1/0;", 2, 7);
            Check.tape(x, "weep 1;rate 1;");
            is("two can be undone", x.look(14), 2);
            is("back", x.image(false), true);
            is("nothing can be undone", x.look(14), 0);
            is("undo", x.undo(), false);
            is("the fault stays", x.fault(0), 2);
            is("its place stays", x.fault(1), 7);
            is("the tape stays", x.end(14), true);
            is("and no more", x.end(15), false);
            is("its text", x.text(0), 2);
        });
        holds(39, "what can be undone (nothing then)", x -> {
            x.image(true);
            x.hours(6);
            is("six", x.look(14), 6);
            x.image(false);
            is("none", x.look(14), 0);
            x.hours(2);
            is("two", x.look(14), 2);
            x.undo();
            x.undo();
            is("no more", x.undo(), false);
            is("hour", x.look(2), 0);
        });
    }

    private static void imageOften() {
        holds(39, "gone back to it may be more than once.", x -> {
            Seen.fill(x);
            x.undo();
            x.undo();
            x.image(true);
            unchanged(x, () -> {
                for (int i = 0; i < 3; i++) {
                    x.traveller(0, 0, 0);
                    x.hours(2);
                    x.act(5, 0, 0);
                    x.count(0, 0, 999);
                    x.salt(99);
                    is("back", x.image(false), true);
                }
            });
        });
        holds(39, "THE IMAGE is taken (true)", x -> {
            for (int i = 0; i < 3; i++) {
                is("taken anew", x.image(true), true);
                x.hours(5);
                x.image(false);
                is("the latest", x.look(2), i);
                x.hours(1);
            }
            x.image(false);
            is("the latest", x.look(2), 2);
        });
    }
}
