/** Section 4 up to what to ask, and promises 17 to 20: sights, likings, asking. */
final class LikingsEdges {
    private static final int NONE = -6;
    private static final int OUTSIDE = -2;
    private static final int FULL = -4;

    private LikingsEdges() {
    }

    static void add(Sentences s) {
        sights(s);
        likings(s);
        ask(s);
        promises(s);
    }

    private static ToupeeWind having(int d, int i, int j, int k, boolean enough) {
        ToupeeWind x = new ToupeeWind();
        x.seen(d, i, j, k, enough);
        return x;
    }

    private static void sights(Sentences s) {
        String unknown = "THE WIND LIKES GATES, FLAGS, SHEETS by g, f, s (0 to 3 each), that are not known.";
        s.test("Section 4, promises 17, 19", unknown, "nothing seen: all from 0 to 333", e -> {
            ToupeeWind x = new ToupeeWind();
            e.due("likings(-1)", x.likings(-1), 64);
            e.due("likings(0)", x.likings(0), 0);
            e.due("likings(63)", x.likings(63), 333);
            e.due("likings(64)", x.likings(64), NONE);
        });
        s.test("Section 4, promises 17, 19", unknown, "what it likes in fact tells nothing of it, nor is told by it", e -> {
            ToupeeWind x = new ToupeeWind();
            x.likes(0, 0, 0);
            e.due("likings(-1)", x.likings(-1), 64);
            e.due("seen(9, 1, 1, 1, true)", x.seen(9, 1, 1, 1, true), 1);
            e.due("likings(0)", x.likings(0), 333);
            e.due("likes(1, 1, 1)", x.likes(1, 1, 1), 0);
        });
        String words = "SIGHTS, 8 at most: i GATES, j FLAGS, k SHEETS (0 to 3 each) were enough for what was OWED, d (1 to 9), or were not.";
        s.test("Section 4, promises 17, 19", words, "just enough is enough, one less is not", e -> {
            e.due("9 by 1, 1, 1", having(9, 1, 1, 1, true).likings(-1), 1);
            e.due("not 9 by 1, 1, 1", having(9, 1, 1, 1, false).likings(-1), 63);
            for (int d = 1; d <= 3; d++) {
                e.due(d + " by a gate", having(d, 1, 0, 0, true).likings(-1), 16 * (4 - d));
                e.due("not " + d + " by a gate", having(d, 1, 0, 0, false).likings(-1), 16 * d);
            }
            e.due("4 by a gate", having(4, 1, 0, 0, true).likings(-1), 0);
            e.due("not 4 by a gate", having(4, 1, 0, 0, false).likings(-1), 64);
        });
        s.test("Section 4, promises 17, 19", words, "no goods, all goods", e -> {
            e.due("1 by none", having(1, 0, 0, 0, true).likings(-1), 0);
            e.due("not 1 by none", having(1, 0, 0, 0, false).likings(-1), 64);
            e.due("9 by 3, 3, 3", having(9, 3, 3, 3, true).likings(-1), 54);
            e.due("not 9 by 3, 3, 3", having(9, 3, 3, 3, false).likings(-1), 10);
            e.due("1 by 3, 3, 3", having(1, 3, 3, 3, true).likings(-1), 63);
            e.due("not 1 by 3, 3, 3", having(1, 3, 3, 3, false).likings(-1), 1);
        });
        s.test("Section 4, promises 17, 19", words, "each kind by its own liking", e -> {
            e.due("gates", having(3, 1, 0, 0, true).likings(0), 300);
            e.due("flags", having(3, 0, 1, 0, true).likings(0), 30);
            e.due("sheets", having(3, 0, 0, 1, true).likings(0), 3);
            e.due("three gates", having(9, 3, 0, 0, true).likings(0), 300);
            e.due("three flags", having(9, 0, 3, 0, true).likings(0), 30);
            e.due("three sheets", having(9, 0, 0, 3, true).likings(0), 3);
        });
        s.test("Section 4, promises 17, 19", words, "eight of them, all looked at", e -> {
            ToupeeWind x = new ToupeeWind();
            for (int n = 1; n <= 7; n++) {
                x.seen(1, 0, 0, 0, false);
            }
            e.due("seven tell nothing", x.likings(-1), 64);
            e.due("the eighth", x.seen(1, 3, 3, 3, false), 8);
            e.due("it tells all", x.likings(-1), 1);
            e.due("likings(0)", x.likings(0), 0);
        });
    }

    private static void likings(Sentences s) {
        String words = "LIKINGS: 100 times g, 10 times f, and s, by which all SIGHTS are so: how many; the i-th (rising).";
        s.test("Section 4, promise 19", words, "each of all 64, rising", e -> {
            ToupeeWind x = new ToupeeWind();
            for (int i = 0; i < 64; i++) {
                e.due("likings(" + i + ")", x.likings(i), 100 * (i / 16) + 10 * (i / 4 % 4) + i % 4);
            }
        });
        s.test("Section 4, promise 19", words, "all sights, not only one of them", e -> {
            ToupeeWind x = having(3, 1, 0, 0, true);
            x.seen(2, 0, 1, 1, false);
            e.due("likings(-1)", x.likings(-1), 3);
            e.due("likings(0)", x.likings(0), 300);
            e.due("likings(1)", x.likings(1), 301);
            e.due("likings(2)", x.likings(2), 310);
            e.due("likings(3)", x.likings(3), NONE);
        });
        s.test("Section 4, promise 19", words, "two sights that can not both be so", e -> {
            ToupeeWind x = having(9, 3, 0, 0, true);
            x.seen(9, 3, 0, 0, false);
            e.due("likings(-1)", x.likings(-1), 0);
            e.due("likings(0)", x.likings(0), NONE);
        });
    }

    private static void ask(Sentences s) {
        String words = "ASK: 1000 times d, 100 times i, 10 times j, and k, to try next, so that, whether or not, fewest of these"
            + " are left at the most: the least; how many.";
        s.test("Section 4, promise 20", words, "nothing seen: halves", e -> {
            ToupeeWind x = new ToupeeWind();
            e.due("ask(0)", x.ask(0), 2001);
            e.due("ask(1)", x.ask(1), 32);
        });
        s.test("Section 4, promise 20", words, "one is left: the least that can be tried", e -> {
            ToupeeWind x = having(9, 1, 1, 1, true);
            e.due("ask(0)", x.ask(0), 1000);
            e.due("ask(1)", x.ask(1), 1);
        });
        s.test("Section 4, promise 20", words, "of four only the two greatest can be told apart late", e -> {
            // 233, 323, 332, 333: below d = 6 no trial leaves fewer than three.
            ToupeeWind x = having(8, 1, 1, 1, true);
            e.due("likings(-1)", x.likings(-1), 4);
            e.due("ask(0)", x.ask(0), 6011);
            e.due("ask(1)", x.ask(1), 2);
        });
        s.test("Section 4, promise 20", words, "of three, two are left at the most", e -> {
            ToupeeWind x = having(3, 1, 0, 0, true);
            x.seen(2, 0, 1, 1, false);
            e.due("ask(0)", x.ask(0), 1001);
            e.due("ask(1)", x.ask(1), 2);
        });
        s.test("Section 4, promise 20", words, "d to 9, i, j, k to 3 are to be tried", e -> {
            ToupeeWind x = having(3, 1, 1, 1, true);
            e.due("d is 9, k is 3: ask(0)", x.ask(0), 9113);
            e.due("27 of 54: ask(1)", x.ask(1), 27);
            x = having(4, 1, 1, 2, true);
            e.due("j is 3: ask(0)", x.ask(0), 7130);
            e.due("26 of 51: ask(1)", x.ask(1), 26);
            x = having(5, 1, 2, 2, true);
            e.due("i is 3: ask(0)", x.ask(0), 7301);
            e.due("26 of 51: ask(1)", x.ask(1), 26);
        });
        s.test("Section 4, promise 20", words, "eight sights: there is still something to try", e -> {
            ToupeeWind x = new ToupeeWind();
            for (int n = 1; n <= 8; n++) {
                x.seen(1, 0, 0, 0, false);
            }
            e.due("ask(0)", x.ask(0), 2001);
            e.due("ask(1)", x.ask(1), 32);
        });
    }

    private static void promises(Sentences s) {
        s.test("Promise 17", "A SIGHT more: how many.", "the first to the eighth, also one that was seen before", e -> {
            ToupeeWind x = new ToupeeWind();
            for (int n = 1; n <= 8; n++) {
                e.due("sight " + n, x.seen(5, 1, 1, 1, true), n);
                e.due("told(8)", x.told(8), n);
            }
        });
        s.test("Promise 17", "OUTSIDE: d, i, j, k;", "1 to 9, 0 to 3 each", e -> {
            Twins.range(e, "seen(_, 1, 1, 1, true)", (x, n) -> x.seen(n, 1, 1, 1, true), 1, 9, OUTSIDE);
            Twins.range(e, "seen(5, _, 1, 1, true)", (x, n) -> x.seen(5, n, 1, 1, true), 0, 3, OUTSIDE);
            Twins.range(e, "seen(5, 1, _, 1, false)", (x, n) -> x.seen(5, 1, n, 1, false), 0, 3, OUTSIDE);
            Twins.range(e, "seen(5, 1, 1, _, false)", (x, n) -> x.seen(5, 1, 1, n, false), 0, 3, OUTSIDE);
        });
        s.test("Promise 17", "FULL.", "the ninth, until they are forgotten", e -> {
            ToupeeWind x = new ToupeeWind();
            for (int n = 1; n <= 8; n++) {
                x.seen(1, 0, 0, 0, false);
            }
            e.due("the ninth", x.seen(1, 0, 0, 0, true), FULL);
            e.due("told(8)", x.told(8), 8);
            e.due("likings(-1)", x.likings(-1), 64);
            e.due("forget()", x.forget(), 8);
            e.due("the first", x.seen(1, 0, 0, 0, true), 1);
        });
        s.test("Promise 18", "SIGHTS go: how many there were.", "none, one, eight", e -> {
            ToupeeWind x = new ToupeeWind();
            e.due("none", x.forget(), 0);
            x.seen(9, 1, 1, 1, true);
            e.due("one", x.forget(), 1);
            e.due("told(8)", x.told(8), 0);
            e.due("likings(-1)", x.likings(-1), 64);
            e.due("none again", x.forget(), 0);
            for (int n = 1; n <= 8; n++) {
                x.seen(n, 0, 0, 0, true);
            }
            e.due("eight", x.forget(), 8);
            e.due("likings(-1)", x.likings(-1), 64);
        });
        s.test("Promise 19", "LIKINGS: how many (i = -1), the i-th; NONE.", "-1, the first, the last, the one behind it", e -> {
            ToupeeWind x = having(3, 1, 0, 0, true);
            e.due("likings(-1)", x.likings(-1), 16);
            e.due("likings(0)", x.likings(0), 300);
            e.due("likings(15)", x.likings(15), 333);
            e.due("likings(16)", x.likings(16), NONE);
            e.due("likings(64)", x.likings(64), NONE);
            e.due("likings of the greatest number", x.likings(Integer.MAX_VALUE), NONE);
        });
        s.test("Promise 19", "LIKINGS: how many (i = -1), the i-th; NONE.", "below -1: no OUTSIDE is named, none is the i-th", e -> {
            ToupeeWind x = new ToupeeWind();
            e.due("likings(-2)", x.likings(-2), NONE);
            e.due("likings of the least number", x.likings(Integer.MIN_VALUE), NONE);
        });
        s.test("Promise 19", "LIKINGS: how many (i = -1), the i-th; NONE.", "it changes nothing", e -> {
            Twins.untouched(e, Twins::lively, "likings(0)", x -> x.likings(0));
            Twins.untouched(e, Twins::lively, "likings(64)", x -> x.likings(64));
        });
        s.test("Promise 20", "ASK: what (what = 0), how many (1); NONE: nothing fits.", "something, nothing", e -> {
            ToupeeWind x = having(3, 0, 0, 1, true);
            e.due("ask(1)", x.ask(1), 8);
            e.due("ask(0)", x.ask(0), 2010);
            x.seen(1, 0, 0, 0, true);
            e.due("nothing fits: ask(0)", x.ask(0), NONE);
            e.due("nothing fits: ask(1)", x.ask(1), NONE);
            e.due("nothing fits: ask(2)", x.ask(2), OUTSIDE);
            Twins.untouched(e, Twins::lively, "ask(1)", y -> y.ask(1));
        });
        s.test("Promise 20", "OUTSIDE.", "0 and 1", e ->
            Twins.range(e, "ask(_)", (x, n) -> x.ask(n), 0, 1, OUTSIDE));
    }
}
