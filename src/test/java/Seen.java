import java.util.ArrayList;
import java.util.List;

/** All that an object answers when it is asked: what a refused call must leave as it was. */
final class Seen {
    private final List<Integer> answers = new ArrayList<>();

    private Seen(TearCustoms x) {
        for (int what = 0; what <= 14; what++) {
            answers.add(x.look(what));
        }
        people(x);
        for (int i = Math.max(0, x.look(8) - 3); i < x.look(8); i++) {
            for (int what = 0; what < 4; what++) {
                answers.add(x.book(i, what));
            }
        }
        answers.add(x.fault(0));
        answers.add(x.fault(1));
        thoughts(x);
    }

    private void people(TearCustoms x) {
        for (int t = 0; t < Math.min(3, x.look(0)); t++) {
            for (int what = 0; what <= 8; what++) {
                answers.add(x.of(t, what));
            }
            answers.add(x.of(t, 10));
            answers.add(x.of(t, 20));
        }
        for (int o = 0; o < x.look(1); o++) {
            for (int what = 0; what < 4; what++) {
                answers.add(x.who(o, what));
            }
        }
        for (int g = 0; g < 4; g++) {
            answers.add(x.votes(g, 0));
        }
    }

    private void thoughts(TearCustoms x) {
        for (int what = 0; what < 2; what++) {
            answers.add(x.rate(what));
            answers.add(x.ordered(what));
            answers.add(x.hands(what));
            answers.add(x.crates(40, what));
            answers.add(x.suspects(what));
            answers.add(x.driest(0, 1, 50, what));
            answers.add(x.altered(what));
            answers.add(x.dry(what));
            answers.add(x.game(what));
        }
        for (int what = 0; what < 4; what++) {
            answers.add(x.goes(2, what));
        }
        for (int cause = 0; cause < 6; cause++) {
            answers.add(x.likely(cause, 1));
            answers.add(x.likely(cause, 14));
        }
        for (int k = 1; k <= 3; k++) {
            answers.add(x.won(k));
        }
    }

    /** Something of everything: three travellers, two officers, each text, each thought, and two deeds to be undone. */
    static void fill(TearCustoms x) {
        x.traveller(1, 2, 30);
        x.traveller(4, 5, 600);
        x.traveller(0, 8, 7);
        x.officer(1, 3, 2);
        x.officer(2, 0, 6);
        x.set(1, 0, 12);
        x.set(1, 1, 40);
        x.set(3, 0, 4);
        Check.tell(x, 0, "weep 3 when wet<50; find 700;");
        Check.tell(x, 1, "traveller 0 with 1;");
        Check.tell(x, 2, "at 1 send 1 to 2;");
        Check.tell(x, 3, "road 0 1 dry 9 wet 2;");
        x.order(10, 2, 3);
        x.order(20, 4, 5);
        x.hand(1, 2);
        x.weight(25);
        x.weight(30);
        x.bag(7);
        x.bag(8);
        x.bag(9);
        x.weighed(1, 7);
        x.count(0, 0, 5);
        x.count(3, 2, 70);
        x.salt(3);
        x.salt(8);
        x.ledger(6, 3);
        x.years(5, 9);
        x.weigh(0, 0);
        x.act(0, 2, 1);
    }

    /** The calls leave everything as it was. */
    static void unchanged(TearCustoms x, Runnable calls) {
        List<Integer> before = new Seen(x).answers;
        calls.run();
        List<Integer> after = new Seen(x).answers;
        Check.same("so many answers are there to compare", after.size(), before.size());
        for (int i = 0; i < before.size() && i < after.size(); i++) {
            Check.same("answer " + i + " as it was", after.get(i), before.get(i));
        }
    }
}
