/** Sentences that name boundary cases of promises 28 to 37: causes, salt, the ledger, dry years, votes, the game. */
final class ReckonBounds extends Bounds {
    private ReckonBounds() {
    }

    static void all() {
        count();
        likely();
        likelyRefused();
        salt();
        won();
        ledger();
        altered();
        alteredIsNotSo();
        years();
        dry();
        votes();
        weighs();
        game();
        gameLost();
    }

    private static void count() {
        holds(28, "told counts, CAUSE 0 .. 5 and look 0 .. 3", x -> {
            for (int cause : new int[] {0, 5}) {
                for (int look : new int[] {0, 3}) {
                    is("count", x.count(cause, look, 1), true);
                }
            }
            for (int v : new int[] {-1, 6, LEAST, MOST}) {
                is("cause " + v, x.count(v, 0, 9), false);
            }
            for (int v : new int[] {-1, 4, LEAST, MOST}) {
                is("look " + v, x.count(0, v, 9), false);
                is("look " + v, x.count(1, v, 9), false);
            }
        });
        holds(28, "(0 .. 999, 0 at first)", x -> {
            is("0 at first", x.likely(3, 1), 166666);
            is("999", x.count(3, 0, 999), true);
            // 166666 * 1000 / 1003 is 166167; five times 166666 / 4 is 208330.
            is("of 999", x.likely(3, 1), 166167L * 1000000 / (166167 + 208330));
            for (int v : new int[] {-1, 1000, LEAST, MOST}) {
                is("count " + v, x.count(3, 0, v), false);
            }
            is("of 999 yet", x.likely(3, 1), 166167L * 1000000 / (166167 + 208330));
            is("0 again", x.count(3, 0, 0), true);
            is("as at first", x.likely(3, 1), 166666);
        });
        holds(28, "OF: a count: true; false if one can't be.", x -> {
            Seen.fill(x);
            unchanged(x, () -> {
                is("no such cause", x.count(6, 0, 5), false);
                is("no such look", x.count(5, 4, 5), false);
                is("no such look", x.count(1, -1, 5), false);
                is("too many", x.count(3, 2, 1000), false);
            });
        });
    }

    private static void likely() {
        holds(29, "q 1000000 by 6, downwards, for each CAUSE;", x -> {
            for (int cause = 0; cause < 6; cause++) {
                is("by no look", x.likely(cause, 0), 166666);
                is("by all looks", x.likely(cause, 15), 166666);
            }
            is("the least of several", x.likely(NONE, 0), 0);
        });
        // 166666 by 5 is 33333, twice that 66666; by 6 it is 27777, twice that 55555 and not 55554.
        holds(29, "look by look in the set q is q times (its count and 1) by (all counts of the CAUSE and 4), downwards;", x -> {
            x.count(1, 0, 1);
            is("one", x.likely(1, 1), 66666L * 1000000 / (66666 + 5 * 41666));
            x.count(1, 1, 1);
            is("one of two", x.likely(1, 1), 55555L * 1000000 / (55555 + 5 * 41666));
            is("a look of none", x.likely(1, 4), 27777L * 1000000 / (27777 + 5 * 41666));
            // 55555 * 2 / 6 is 18518, 18518 / 6 is 3086, 3086 / 6 is 514; 166666 by 4 four times is 651.
            is("look by look", x.likely(1, 15), 514L * 1000000 / (514 + 5 * 651));
        });
        // Of six q of 166666 each a sixth of a million is 166666 and a rest.
        holds(29, "Quotients go downwards.", x -> {
            int all = 0;
            for (int cause = 0; cause < 6; cause++) {
                all += x.likely(cause, 0);
            }
            is("the rests are gone", all, 999996);
            x.count(0, 0, 1);
            x.count(0, 1, 1);
            // 166666 * 1 / 6 is 27777 and a rest; 27777 * 1000000 / 236107 is 117645 and a rest.
            is("in each step", x.likely(0, 4), 117645);
        });
        holds(29, "OF is that q of a million of all together, downwards (all 0: 0).", x -> {
            for (int cause = 0; cause < 6; cause++) {
                x.count(cause, 3, 999);
            }
            is("166 each", x.likely(0, 1), 166666);
            is("all 0", x.likely(0, 7), 0);
            is("all 0", x.likely(5, 7), 0);
            is("the least of several", x.likely(NONE, 7), 0);
            for (int look = 0; look < 4; look++) {
                x.count(5, look, 999);
            }
            is("one alone is left", x.likely(5, 7), 1000000);
            is("not the others", x.likely(0, 7), 0);
            is("most", x.likely(NONE, 7), 5);
        });
        holds(29, "MOST: the CAUSE with greatest q (of several the least).", x -> {
            is("all alike", x.likely(NONE, 15), 0);
            x.count(2, 0, 5);
            x.count(4, 0, 5);
            is("two alike", x.likely(NONE, 1), 2);
            is("the others are less by it, and alike", x.likely(NONE, 2), 0);
            x.count(5, 0, 6);
            is("the last", x.likely(NONE, 1), 5);
            TearCustoms y = new TearCustoms();
            for (int cause = 5; cause >= 0; cause--) {
                y.count(cause, 3, 1);
                is("each when it is the least of several", y.likely(NONE, 8), cause);
            }
        });
    }

    private static void likelyRefused() {
        holds(29, "OF a CAUSE by looks (bits 0 .. 3);", x -> {
            for (int looks : new int[] {-1, 16, 17, LEAST, MOST}) {
                is("looks " + looks, x.likely(0, looks), NONE);
                is("most by looks " + looks, x.likely(NONE, looks), NONE);
            }
            is("all four", x.likely(5, 15), 166666);
        });
        holds(29, "MOST (cause NONE). NONE if one can't be.", x -> {
            for (int cause : new int[] {-2, 6, LEAST, MOST}) {
                is("cause " + cause, x.likely(cause, 0), NONE);
            }
            is("the last cause", x.likely(5, 0), 166666);
        });
    }

    private static void salt() {
        holds(30, "SALT, up to 12 told prices 0 .. 99 by days", x -> {
            is("0", x.salt(0), 1);
            is("99", x.salt(99), 2);
            for (int v : new int[] {100, -2, LEAST, MOST}) {
                is("salt(" + v + ")", x.salt(v), NONE);
            }
            is("99", x.won(1), 99);
            for (int i = 3; i <= 12; i++) {
                is("salt", x.salt(0), i);
            }
        });
        holds(30, "SALT: a price (NONE: none is then): how many;", x -> {
            is("of none", x.salt(NONE), 0);
            x.salt(1);
            x.salt(9);
            is("none", x.salt(NONE), 0);
            is("nothing is won", x.won(3), 0);
            is("the first again", x.salt(5), 1);
            is("the second again", x.salt(7), 2);
            is("of these alone", x.won(1), 2);
        });
        holds(30, "NONE if one can't be, or there are twelve.", x -> {
            Seen.fill(x);
            for (int i = 3; i <= 12; i++) {
                is("salt", x.salt(i), i);
            }
            x.act(5, 0, 0);
            unchanged(x, () -> {
                is("a thirteenth", x.salt(99), NONE);
                is("one that can't be", x.salt(100), NONE);
            });
            is("none", x.salt(NONE), 0);
            is("one again", x.salt(1), 1);
        });
    }

    private static void won() {
        holds(31, "SALT; NONE if k can't be.", x -> {
            x.salt(1);
            x.salt(2);
            for (int k : new int[] {0, 4, -1, LEAST, MOST}) {
                is("won(" + k + ")", x.won(k), NONE);
            }
            is("won(1)", x.won(1), 1);
            is("won(3)", x.won(3), 1);
        });
        holds(31, "bought on a day, sold on a later one, k (1 .. 3) times at most", x -> {
            for (int i = 0; i < 12; i++) {
                x.salt(i % 2 * (99 - i));
            }
            is("once", x.won(1), 98);
            is("twice", x.won(2), 98 + 96);
            is("three times", x.won(3), 98 + 96 + 94);
        });
        holds(31, "the most that is won.", x -> {
            for (int k = 1; k <= 3; k++) {
                is("no day", x.won(k), 0);
            }
            x.salt(99);
            is("one day", x.won(3), 0);
            x.salt(99);
            is("the same price", x.won(3), 0);
            for (int i = 2; i < 12; i++) {
                x.salt(99 - i);
            }
            is("ever less", x.won(1), 0);
            is("ever less", x.won(3), 0);
        });
        holds(31, "(sold and bought on one day can be)", x -> {
            for (int v : new int[] {0, 50, 99}) {
                x.salt(v);
            }
            for (int k = 1; k <= 3; k++) {
                is("won(" + k + ")", x.won(k), 99);
            }
            x.salt(NONE);
            for (int v : new int[] {0, 50, 40, 90}) {
                x.salt(v);
            }
            is("once", x.won(1), 90);
            is("one behind the other", x.won(2), 100);
        });
        holds(31, "one behind the other", x -> {
            for (int v : new int[] {10, 0, 60, 99}) {
                x.salt(v);
            }
            is("not two at once", x.won(3), 99);
        });
    }

    private static void ledger() {
        holds(32, "number k (0 .. 15), sum of row k - 16 (16 .. 19), of column k - 20 (20 .. 23; sums 0 .. 999): true;", x -> {
            for (int k = 0; k < 24; k++) {
                int most = k < 16 ? 99 : 999;
                is("0", x.ledger(k, 0), true);
                is("the most", x.ledger(k, most), true);
                is("one more", x.ledger(k, most + 1), false);
                is("below 0", x.ledger(k, -1), false);
            }
            for (int k : new int[] {-1, 24, LEAST, MOST}) {
                is("ledger(" + k + ", 0)", x.ledger(k, 0), false);
            }
            is("beyond all", x.ledger(0, MOST), false);
            is("beyond all", x.ledger(23, LEAST), false);
        });
        holds(32, "sixteen told numbers 0 .. 99 in four rows of four, the told sums of rows and columns", x -> {
            for (int k = 0; k < 16; k++) {
                is("number", x.ledger(k, 99), true);
            }
            for (int k = 16; k < 24; k++) {
                is("two rows are wrong", x.altered(0), -10000);
                is("sum", x.ledger(k, 396), true);
            }
            is("all are right", x.altered(0), -10000);
            is("a number", x.ledger(15, 0), true);
            is("the last", x.altered(0), 15);
            is("99 too few", x.altered(1), -99);
        });
        holds(32, "false if one can't be (0 at first).", x -> {
            is("all right at first", x.altered(0), -10000);
            is("number 9", x.ledger(9, 1), true);
            is("the others are 0", x.altered(0), 9);
            is("by one", x.altered(1), 1);
            Seen.fill(x);
            x.ledger(6, 0);
            unchanged(x, () -> {
                is("too great", x.ledger(9, 100), false);
                is("too great", x.ledger(18, 1000), false);
                is("below 0", x.ledger(21, -1), false);
                is("no such one", x.ledger(24, 0), false);
            });
        });
    }

    private static void altered() {
        holds(33, "if just one row and one column are wrong, by as much: which number it is; by how much.", x -> {
            for (int k = 0; k < 16; k++) {
                x.ledger(k, 7);
                is("which", x.altered(0), k);
                is("by", x.altered(1), 7);
                x.ledger(k, 0);
            }
            x.ledger(16, 999);
            is("no column", x.altered(0), -10000);
            x.ledger(20, 998);
            is("not as much", x.altered(0), -10000);
            x.ledger(20, 999);
            is("as much", x.altered(0), 0);
        });
        holds(33, "1 by how much (above the sum's: more than 0).", x -> {
            x.ledger(0, 99);
            is("more", x.altered(1), 99);
            x.ledger(16, 98);
            x.ledger(20, 98);
            is("one more", x.altered(1), 1);
            x.ledger(16, 99);
            x.ledger(20, 99);
            is("right", x.altered(1), -10000);
            x.ledger(16, 100);
            x.ledger(20, 100);
            is("one less", x.altered(1), -1);
            x.ledger(0, 0);
            x.ledger(16, 999);
            x.ledger(20, 999);
            is("the least", x.altered(1), -999);
            is("which", x.altered(0), 0);
        });
    }

    private static void alteredIsNotSo() {
        holds(33, "NONE - 9999 if it is not so, or another what.", x -> {
            is("nothing is wrong", x.altered(0), -10000);
            is("nothing is wrong", x.altered(1), -10000);
            x.ledger(5, 3);
            x.ledger(10, 3);
            is("two rows, two columns", x.altered(0), -10000);
            is("two rows, two columns", x.altered(1), -10000);
            x.ledger(18, 3);
            is("one row, two columns", x.altered(0), -10000);
            x.ledger(18, 0);
            x.ledger(22, 3);
            is("two rows, one column", x.altered(0), -10000);
            x.ledger(18, 3);
            is("one each", x.altered(0), 5);
            for (int what : new int[] {-1, 2, LEAST, MOST}) {
                is("altered(" + what + ")", x.altered(what), -10000);
            }
        });
        holds(33, "just one row and one column", x -> {
            x.ledger(16, 1);
            is("a row alone", x.altered(0), -10000);
            x.ledger(16, 0);
            x.ledger(23, 1);
            is("a column alone", x.altered(1), -10000);
            x.ledger(19, 2);
            is("not by as much", x.altered(0), -10000);
            x.ledger(15, 2);
            is("more and less", x.altered(0), -10000);
        });
    }

    private static void years() {
        holds(34, "n years (1 .. 30) as bits, bit 0 the first (1: wept).", x -> {
            is("one", x.years(1, 0), true);
            is("one", x.dry(0), 1);
            is("thirty", x.years(30, 1), true);
            is("all but the first", x.dry(0), 29);
            is("from the second on", x.dry(1), 1);
            is("thirty", x.years(30, 1 << 29), true);
            is("all but the last", x.dry(0), 29);
            is("from the first on", x.dry(1), 0);
            for (int n : new int[] {0, 31, 32, 33, -1, LEAST, MOST}) {
                is("years(" + n + ", 0)", x.years(n, 0), false);
            }
        });
        holds(34, "Told; false if one can't be.", x -> {
            Seen.fill(x);
            unchanged(x, () -> {
                is("other bits", x.years(1, 2), false);
                is("other bits", x.years(5, 32), false);
                is("other bits", x.years(29, 1 << 29), false);
                is("other bits", x.years(30, 1 << 30), false);
                is("below 0", x.years(30, -1), false);
                is("below 0", x.years(30, LEAST), false);
                is("none", x.years(0, 0), false);
                is("too many", x.years(31, 0), false);
            });
            is("all bits", x.years(5, 31), true);
            is("all bits", x.years(30, (1 << 30) - 1), true);
        });
    }

    private static void dry() {
        holds(35, "told years, up to 30 as a row of bits: the longest run of 0s; where it begins (of several the first).", x -> {
            x.years(30, 0);
            is("all", x.dry(0), 30);
            is("from the first on", x.dry(1), 0);
            x.years(8, 0b01001001);
            is("two", x.dry(0), 2);
            is("the first of two", x.dry(1), 1);
            x.years(8, 0b00010011);
            is("at the end", x.dry(0), 3);
            is("at the end", x.dry(1), 5);
            x.years(3, 0b011);
            is("the last alone", x.dry(1), 2);
            is("not behind the last", x.dry(0), 1);
        });
        holds(35, "1 where it begins (NONE: none).", x -> {
            is("none told", x.dry(0), 0);
            is("none told", x.dry(1), NONE);
            x.years(1, 1);
            is("wept", x.dry(0), 0);
            is("wept", x.dry(1), NONE);
            x.years(30, (1 << 30) - 1);
            is("ever wept", x.dry(0), 0);
            is("ever wept", x.dry(1), NONE);
        });
        holds(35, "NONE for another what.", x -> {
            x.years(9, 0);
            for (int what : new int[] {-1, 2, LEAST, MOST}) {
                is("dry(" + what + ")", x.dry(what), NONE);
            }
        });
    }

    private static void votes() {
        holds(36, "VOTES of a GATE: OFFICERS there have SOFT and 1 each", x -> {
            for (int g = 0; g < 4; g++) {
                is("nobody", x.votes(g, 0), 0);
            }
            x.officer(0, 0, 0);
            is("soft 0", x.votes(0, 0), 1);
            for (int o = 1; o < 6; o++) {
                x.officer(3, 0, 9);
                is("soft 9", x.votes(3, 0), 10 * o);
            }
            x.act(5, 3, 0);
            is("closed", x.votes(3, 0), 50);
        });
        holds(36, "NONE if there is none such, or another what.", x -> {
            for (int g : new int[] {-1, 4, LEAST, MOST}) {
                is("votes(" + g + ", 0)", x.votes(g, 0), NONE);
                is("votes(" + g + ", 1)", x.votes(g, 1), NONE);
            }
            for (int what : new int[] {-1, 2, LEAST, MOST}) {
                is("votes(3, " + what + ")", x.votes(3, what), NONE);
            }
        });
    }

    private static void weighs() {
        holds(36, "in how many sets of the other GATES it turns no more than half of all VOTES into more", x -> {
            for (int g = 0; g < 4; g++) {
                is("without votes", x.votes(g, 1), 0);
            }
            x.officer(0, 0, 4);
            is("alone: all eight sets", x.votes(0, 1), 8);
            is("without votes", x.votes(1, 1), 0);
            x.officer(1, 0, 4);
            is("half is no more than half", x.votes(0, 1), 4);
            is("half is no more than half", x.votes(1, 1), 4);
            x.officer(2, 0, 0);
            // Of 11 votes, 5, 5 and 1: any two are more than half.
            is("5 of 11", x.votes(0, 1), 4);
            is("1 of 11", x.votes(2, 1), 4);
            x.officer(3, 0, 0);
            // Of 12, 5, 5, 1 and 1: 5 and 1 are just half.
            is("5 of 12", x.votes(1, 1), 4);
            is("1 of 12", x.votes(3, 1), 2);
        });
    }

    private static void game() {
        holds(37, "two by turns joke off 1 .. SOFT and 1 of one", x -> {
            x.officer(0, 0, 0);
            x.set(3, 0, 1);
            is("one of one", x.game(0), 0);
            is("one", x.game(1), 1);
            x.set(3, 0, 2);
            is("one by one: lost", x.game(0), NONE);
            x.set(4, 0, 1);
            is("two at once", x.game(1), 2);
            x.set(3, 0, 3);
            is("three by two: lost", x.game(1), NONE);
            x.set(4, 0, 9);
            x.set(3, 0, 9);
            is("nine by ten", x.game(1), 9);
        });
        holds(37, "the OFFICER (of several the least), how many (the fewest) who begins well jokes off.", x -> {
            x.officer(0, 0, 9);
            x.officer(0, 0, 9);
            x.officer(0, 0, 9);
            for (int o = 0; o < 3; o++) {
                x.set(3, o, 5);
            }
            is("the least", x.game(0), 0);
            is("all of it", x.game(1), 5);
            x.set(3, 2, 6);
            is("of 5, 5 and 6 each can be: the least", x.game(0), 0);
            is("5 to 3", x.game(1), 2);
            x.set(3, 0, 1);
            x.set(3, 1, 2);
            x.set(3, 2, 4);
            is("of 1, 2 and 4 the last alone", x.game(0), 2);
            is("4 to 3", x.game(1), 1);
            x.set(3, 0, 0);
            x.set(3, 1, 0);
            x.set(4, 2, 0);
            x.set(3, 2, 9);
            is("odd ones by one", x.game(1), 1);
        });
    }

    private static void gameLost() {
        holds(37, "NONE if who begins loses, or for another what.", x -> {
            is("nobody", x.game(0), NONE);
            is("nobody", x.game(1), NONE);
            for (int o = 0; o < 6; o++) {
                x.officer(0, 0, o);
            }
            is("nobody is tired", x.game(0), NONE);
            is("nobody is tired", x.game(1), NONE);
            x.set(3, 4, 1);
            x.set(3, 5, 1);
            is("two alike", x.game(0), NONE);
            is("two alike", x.game(1), NONE);
            x.set(3, 5, 2);
            is("two of 2 and 1", x.game(0), 5);
            for (int what : new int[] {-1, 2, LEAST, MOST}) {
                is("game(" + what + ")", x.game(what), NONE);
            }
        });
        holds(37, "who jokes off the last one of all wins", x -> {
            x.officer(0, 0, 9);
            x.set(3, 0, 9);
            is("all at once", x.game(1), 9);
            x.officer(0, 0, 0);
            x.set(3, 1, 1);
            is("one is left of each", x.game(0), 0);
            is("one is left of each", x.game(1), 8);
        });
    }
}
