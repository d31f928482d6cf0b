import java.util.Random;

/** Calls with any arguments in any state: none may throw. */
public final class WildTest {
    private static final int[] WILD = {Integer.MIN_VALUE, Integer.MIN_VALUE + 1, -10001, -100, -2, -1, 0, 0, 0, 1, 1, 2, 2, 3,
        3, 4, 5, 6, 7, 8, 9, 10, 11, 12, 13, 15, 16, 20, 21, 23, 24, 25, 26, 30, 31, 32, 39, 40, 41, 59, 60, 61, 63, 64, 99, 100,
        399, 400, 401, 511, 999, 1000, 1023, 1024, 9999, 10000, 65535, 1 << 30, Integer.MAX_VALUE - 19, Integer.MAX_VALUE};
    private static final String[] TEXTS = {"weep 9-grip+kin*2 when not (wet>50) or tired<3; rate 99; find 400+nose*50;",
        "traveller 0 with 1; traveller 1 with 2;", "at 1 send 0 to 1; at 2 close 1; at 3 move 0 to 2; at 4 onion 1;",
        "road 0 1 dry 3 wet 1; road 1 0 dry 5 wet 9; road 1 2 dry 0 wet 0;", "weep (((((((((", "rate 1/0;"};

    private final Random dice;

    private WildTest(int seed) {
        dice = new Random(seed);
    }

    public static void main(String[] args) {
        for (int seed = 0; seed < 2500; seed++) {
            new WildTest(seed).play(seed);
        }
        Check.finish();
    }

    private int any() {
        return dice.nextInt(30) == 0 ? dice.nextInt() : WILD[dice.nextInt(WILD.length)];
    }

    private int few() {
        return dice.nextInt(4) == 0 ? any() : dice.nextInt(6);
    }

    private void play(int seed) {
        TearCustoms x = new TearCustoms();
        // A text takes up to six calls, so that an object is not used for more than the 512 that are promised.
        for (int i = 0; i < 120; i++) {
            int call = dice.nextInt(44);
            try {
                one(x, call);
                int hour = x.look(2);
                Check.same("hour", hour >= 0 && hour <= 9999, true);
            } catch (RuntimeException | StackOverflowError e) {
                Check.same("seed " + seed + ", call " + call + ": " + e, true, false);
            }
        }
    }

    private void one(TearCustoms x, int call) {
        switch (call) {
            case 0: x.state(any()); break;
            case 1: x.traveller(few(), few(), any()); break;
            case 2: x.officer(few(), few(), few()); break;
            case 3: x.set(few(), few(), any()); break;
            case 4: x.act(few(), few(), few()); break;
            case 5: x.weigh(few(), few()); break;
            case 6: x.hours(any()); break;
            case 7: x.feed(any(), any(), dice.nextInt(), 0x77656570, 0x20313b20); break;
            case 8: x.end(any()); break;
            case 9: x.text(few()); break;
            case 10: x.fault(few()); break;
            case 11: x.of(few(), any()); break;
            case 12: x.who(few(), few()); break;
            case 13: x.book(any(), few()); break;
            case 14: x.goes(any(), few()); break;
            case 15: x.rate(few()); break;
            case 16: x.order(any(), few(), few()); break;
            case 17: x.ordered(few()); break;
            case 18: x.hand(few(), few()); break;
            case 19: x.hands(few()); break;
            case 20: x.weight(any()); break;
            case 21: x.crates(any(), few()); break;
            case 22: x.bag(any()); break;
            case 23: x.weighed(any(), any()); break;
            case 24: x.suspects(few()); break;
            case 25: x.driest(few(), few(), any(), few()); break;
            case 26: x.count(few(), few(), any()); break;
            case 27: x.likely(few(), any()); break;
            case 28: x.salt(any()); break;
            case 29: x.won(few()); break;
            case 30: x.ledger(any(), any()); break;
            case 31: x.altered(few()); break;
            case 32: x.years(any(), any()); break;
            case 33: x.dry(few()); break;
            case 34: x.votes(few(), few()); break;
            case 35: x.game(few()); break;
            case 36: x.undo(); break;
            case 37: x.image(dice.nextBoolean()); break;
            case 38: x.look(any()); break;
            default:
                x.end(0);
                int k = dice.nextInt(TEXTS.length);
                Check.tell(x, k > 3 ? 0 : k, TEXTS[k]);
        }
    }
}
