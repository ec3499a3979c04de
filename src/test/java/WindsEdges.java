/** Section 3, and promises 13 to 16: when it blows where, passes, arms, payments. */
final class WindsEdges {
    private static final int NONE = -6;
    private static final int UNKNOWN = -1;
    private static final int OUTSIDE = -2;

    private WindsEdges() {
    }

    static void add(Sentences s) {
        now(s);
        when(s);
        pass(s);
        passFirst(s);
        arms(s);
        paid(s);
        promises(s);
    }

    private static void now(Sentences s) {
        String words = "(As things are now; the FORCE stays.)";
        s.test("Section 3, promises 13 to 16", words, "what is on the pad is no matter", e -> {
            ToupeeWind x = Expect.text(new ToupeeWind(), "!!.A5AgB&B~");
            x.walker(0, 0, 1, 3);
            e.due("when(1)", x.when(1), 2);
            e.due("when(8)", x.when(8), 1);
            e.due("pass(0, 1, 0)", x.pass(0, 1, 0), 2);
            e.due("arms(1, 1)", x.arms(1, 1), 2);
            e.due("paid(0, 0)", x.paid(0, 0), 3);
        });
        s.test("Section 3, promises 13 to 16", words, "nothing is changed by looking", e -> {
            Twins.untouched(e, Twins::lively, "when(11)", x -> x.when(11));
            Twins.untouched(e, Twins::lively, "pass(0, 11, 0)", x -> x.pass(0, 11, 0));
            Twins.untouched(e, Twins::lively, "arms(11, 1)", x -> x.arms(11, 1));
            Twins.untouched(e, Twins::lively, "paid(0, 0)", x -> x.paid(0, 0));
        });
        s.test("Section 3, promises 13 to 16", words, "the same, asked twice", e -> {
            ToupeeWind x = Twins.lively();
            for (int cell = 0; cell < 12; cell++) {
                e.due("when(" + cell + ")", x.when(cell), x.when(cell));
                e.due("pass(" + cell + ", 0, 0)", x.pass(cell, 0, 0), x.pass(cell, 0, 0));
            }
        });
    }

    private static void when(Sentences s) {
        String words = "WHEN: at which HOURS of the next 8 (bits) THE WIND comes to a CELL.";
        s.test("Section 3, promise 13", words, "not now, in the first, in the eighth, not in the ninth", e -> {
            ToupeeWind x = new ToupeeWind();
            e.due("where it is: when(0)", x.when(0), 0);
            for (int cell = 1; cell <= 8; cell++) {
                e.due("when(" + cell + ")", x.when(cell), 1 << cell % 8);
            }
            e.due("the ninth: when(9)", x.when(9), 0);
        });
        s.test("Section 3, promise 13", words, "from each hour on, the hours go round", e -> {
            for (int hour = 0; hour < 8; hour++) {
                ToupeeWind x = new ToupeeWind();
                Expect.text(x, ".".repeat(hour)).done();
                x.wind(0, 0, 1);
                for (int cell = 0; cell < 12; cell++) {
                    int due = cell >= 1 && cell <= 8 ? 1 << (hour + cell) % 8 : 0;
                    e.due("at hour " + hour + ": when(" + cell + ")", x.when(cell), due);
                }
            }
        });
        s.test("Section 3, promise 13", words, "it turns at both ends; it comes twice; it comes in all", e -> {
            ToupeeWind x = new ToupeeWind();
            x.wind(10, 0, 1);
            e.due("when(11)", x.when(11), 1 << 1);
            e.due("when(10)", x.when(10), 1 << 2);
            e.due("when(4)", x.when(4), 1);
            e.due("when(3)", x.when(3), 0);
            x.wind(2, 1, 1);
            e.due("when(0)", x.when(0), 1 << 2);
            e.due("when(1)", x.when(1), 1 << 1 | 1 << 3);
            e.due("when(2)", x.when(2), 1 << 4);
            e.due("when(6)", x.when(6), 1);
            e.due("when(7)", x.when(7), 0);
            // Up to 11 and down to 7; down to 0 and up to 2; to 11; to 2; by 0 to 7; by 11 to 6; by 0 to 3; by 11 to 10.
            x.wind(6, 0, 9);
            e.due("from 6 by 9: when(8)", x.when(8), 1 << 1 | 1 << 3 | 1 << 4 | 1 << 6 | 1 << 0);
        });
    }

    private static void pass(Sentences s) {
        String words = "PASS from a CELL to a CELL: each hour one who has STATED nothing goes a CELL, or stays, ahead of it,"
            + " and must not be where THE WIND comes then:";
        s.test("Section 3, promise 14", words, "a cell an hour, from end to end", e -> {
            ToupeeWind x = new ToupeeWind();
            e.due("against it: pass(11, 0, 0)", x.pass(11, 0, 0), 11);
            e.due("with it: pass(2, 11, 0)", x.pass(2, 11, 0), 9);
            x.wind(11, 1, 1);
            e.due("against it: pass(0, 11, 0)", x.pass(0, 11, 0), 11);
        });
        s.test("Section 3, promise 14", words, "ahead of it: he leaves a cell in the hour in which it comes there", e -> {
            ToupeeWind x = new ToupeeWind();
            x.wind(5, 1, 1);
            e.due("he takes its place: pass(4, 5, 0)", x.pass(4, 5, 0), 1);
            x.wind(5, 0, 1);
            e.due("he runs ahead of it: pass(6, 7, 0)", x.pass(6, 7, 0), 1);
        });
        s.test("Section 3, promise 14", words, "he must not go where it comes, nor stay there", e -> {
            ToupeeWind x = new ToupeeWind();
            x.wind(5, 1, 1);
            e.due("pass(3, 4, 0)", x.pass(3, 4, 0), 2);
            e.due("pass(5, 4, 0)", x.pass(5, 4, 0), 2);
            x.wind(0, 0, 3);
            e.due("he can not stay: pass(5, 8, 0)", x.pass(5, 8, 0), 7);
        });
        s.test("Section 3, promise 14", words, "there is no cell below 0 and none above 11 to wait on", e -> {
            ToupeeWind x = new ToupeeWind();
            x.wind(5, 1, 9);
            e.due("4, 3, 2, 1, 0 and back: pass(0, 1, 0)", x.pass(0, 1, 0), NONE);
            e.due("pass(0, 11, 0)", x.pass(0, 11, 0), NONE);
            x.wind(6, 0, 9);
            e.due("7, 8, 9, 10, 11 and back: pass(11, 10, 0)", x.pass(11, 10, 0), NONE);
            e.due("pass(11, 0, 0)", x.pass(11, 0, 0), NONE);
        });
        s.test("Section 3, promise 14", words, "it is no matter who is where, and what they have stated", e -> {
            ToupeeWind x = new ToupeeWind();
            x.walker(0, 0, 255, 0);
            e.due("pass(0, 1, 0)", x.pass(0, 1, 0), 2);
        });
        String earliest = "behind how many hours he is there at the earliest (0: he is);";
        s.test("Section 3, promise 14", earliest, "0 on each cell, whatever blows", e -> {
            ToupeeWind x = new ToupeeWind();
            x.wind(4, 1, 9);
            for (int cell = 0; cell < 12; cell++) {
                e.due("pass(" + cell + ", " + cell + ", 0)", x.pass(cell, cell, 0), 0);
            }
        });
        s.test("Section 3, promise 14", earliest, "1, and 24, the most that there are", e -> {
            ToupeeWind x = new ToupeeWind();
            e.due("pass(5, 6, 0)", x.pass(5, 6, 0), 1);
            x.wind(4, 1, 5);
            e.due("pass(6, 11, 0)", x.pass(6, 11, 0), 24);
        });
    }

    private static void passFirst(Sentences s) {
        String words = "whether he first stays (0), goes up (1), or down (2), the least by which it is so early; NONE.";
        s.test("Section 3, promise 14", words, "only one is so early", e -> {
            ToupeeWind x = new ToupeeWind();
            e.due("stays: pass(0, 1, 1)", x.pass(0, 1, 1), 0);
            e.due("up: pass(5, 6, 1)", x.pass(5, 6, 1), 1);
            e.due("down: pass(5, 4, 1)", x.pass(5, 4, 1), 2);
        });
        s.test("Section 3, promise 14", words, "the least of two and of three", e -> {
            ToupeeWind x = new ToupeeWind();
            x.wind(4, 1, 1);
            e.due("0 and 1: pass(0, 2, 0)", x.pass(0, 2, 0), 3);
            e.due("0 and 1: pass(0, 2, 1)", x.pass(0, 2, 1), 0);
            x.wind(0, 0, 1);
            e.due("0 and 2: pass(4, 2, 0)", x.pass(4, 2, 0), 3);
            e.due("0 and 2: pass(4, 2, 1)", x.pass(4, 2, 1), 0);
            x.wind(0, 0, 3);
            e.due("1 and 2: pass(5, 8, 0)", x.pass(5, 8, 0), 7);
            e.due("1 and 2: pass(5, 8, 1)", x.pass(5, 8, 1), 1);
            x.wind(0, 0, 2);
            e.due("all: pass(5, 3, 0)", x.pass(5, 3, 0), 4);
            e.due("all: pass(5, 3, 1)", x.pass(5, 3, 1), 0);
        });
        s.test("Section 3, promise 14", words, "NONE: he is there, or can not be", e -> {
            ToupeeWind x = new ToupeeWind();
            e.due("he is: pass(3, 3, 1)", x.pass(3, 3, 1), NONE);
            x.wind(0, 0, 9);
            e.due("he can not: pass(0, 11, 0)", x.pass(0, 11, 0), NONE);
            e.due("he can not: pass(0, 11, 1)", x.pass(0, 11, 1), NONE);
        });
    }

    private static ToupeeWind spread(int... cells) {
        ToupeeWind x = new ToupeeWind();
        for (int walker = 0; walker < 6; walker++) {
            x.walker(walker, cells[walker], 0, 0);
        }
        return x;
    }

    private static void arms(Sentences s) {
        String who = "ARMS: each one who is at peace can HOLD one other, who is not at peace, no more than d CELLS (0 to 11) off him;";
        s.test("Section 3, promise 15", who, "d cells off, and one more, up and down, from 0 to 11", e -> {
            for (int d = 0; d <= 11; d++) {
                ToupeeWind x = spread(0, d, 11, 11, 11, 11);
                x.walker(0, 0, 1, 3);
                e.due("up, " + d + " off: arms(" + d + ", 0)", x.arms(d, 0), 1);
                e.due("up, " + d + " off: arms(" + (d - 1) + ", 1)", d == 0 ? 0 : x.arms(d - 1, 1), 0);
                x = spread(11, 11 - d, 0, 0, 0, 0);
                x.walker(0, 11, 1, 3);
                e.due("down, " + d + " off: arms(" + d + ", 0)", x.arms(d, 0), 1);
                e.due("down, " + d + " off: arms(" + (d - 1) + ", 1)", d == 0 ? 0 : x.arms(d - 1, 1), 0);
            }
        });
        s.test("Section 3, promise 15", who, "one at peace holds one, of five", e -> {
            ToupeeWind x = spread(4, 4, 4, 4, 4, 4);
            x.walker(5, 4, 1, 0);
            e.due("arms(0, 0)", x.arms(0, 0), 1);
            e.due("arms(0, 1)", x.arms(0, 1), 1);
        });
        s.test("Section 3, promise 15", who, "3 and 4 owed, the hour and another one", e -> {
            ToupeeWind x = spread(4, 4, 4, 4, 4, 4);
            x.walker(0, 4, 1, 4);
            e.due("4 owed: arms(11, 0)", x.arms(11, 0), 0);
            x.walker(0, 4, 254, 0);
            e.due("another hour: arms(11, 0)", x.arms(11, 0), 0);
            x.walker(0, 4, 1, 3);
            e.due("3 owed: arms(11, 1)", x.arms(11, 1), 2);
        });
        s.test("Section 3, promise 15", who, "nobody at peace, all at peace", e -> {
            ToupeeWind x = spread(4, 4, 4, 4, 4, 4);
            e.due("nobody: arms(11, 0)", x.arms(11, 0), 0);
            e.due("nobody: arms(11, 1)", x.arms(11, 1), 0);
            for (int walker = 0; walker < 6; walker++) {
                x.walker(walker, 4, 1, 0);
            }
            e.due("all: arms(11, 0)", x.arms(11, 0), 0);
            e.due("all: arms(11, 1)", x.arms(11, 1), 0);
        });
        String one = "each of these is HELD by one at most: how many can be at the most;";
        s.test("Section 3, promise 15", one, "five at peace and one other; three and three", e -> {
            ToupeeWind x = spread(4, 4, 4, 4, 4, 4);
            for (int walker = 0; walker < 6; walker++) {
                e.due(walker + " at peace: arms(0, 0)", x.arms(0, 0), Math.min(walker, 6 - walker));
                x.walker(walker, 4, 1, 0);
            }
        });
        s.test("Section 3, promise 15", one, "who can hold more leaves one to who can not", e -> {
            // C reaches A and F, D reaches A alone, E reaches F and B.
            ToupeeWind x = spread(1, 7, 3, 0, 5, 4);
            x.walker(2, 3, 1, 0);
            x.walker(3, 0, 1, 0);
            x.walker(4, 5, 1, 0);
            e.due("arms(2, 0)", x.arms(2, 0), 3);
            e.due("arms(2, 1)", x.arms(2, 1), 1 | 2 | 32);
        });
        String which = "which, the least as bits of as many.";
        s.test("Section 3, promise 15", which, "the least of as many, not the least of all", e -> {
            ToupeeWind x = spread(4, 4, 4, 4, 4, 4);
            x.walker(0, 4, 1, 0);
            x.walker(1, 4, 1, 0);
            e.due("two of C to F: arms(0, 1)", x.arms(0, 1), 4 | 8);
            x = spread(0, 6, 1, 11, 11, 7);
            x.walker(0, 0, 1, 0);
            x.walker(1, 6, 1, 0);
            e.due("C and F: arms(1, 1)", x.arms(1, 1), 4 | 32);
        });
        s.test("Section 3, promise 15", which, "A alone comes ahead of F alone; two of three", e -> {
            ToupeeWind x = spread(3, 4, 9, 9, 9, 5);
            x.walker(1, 4, 1, 0);
            e.due("A or F: arms(1, 1)", x.arms(1, 1), 1);
            x = spread(0, 0, 0, 11, 0, 11);
            x.walker(4, 0, 1, 0);
            x.walker(5, 5, 1, 0);
            e.due("two of A, B, C: arms(5, 1)", x.arms(5, 1), 3);
        });
    }

    private static void paid(Sentences s) {
        String words = "PAID: of a WALKER the fewest GATES, FLAGS, SHEETS (of his) by which he OWES nothing: how many;";
        s.test("Section 3, promise 16", words, "nothing is owed", e -> {
            ToupeeWind x = new ToupeeWind();
            x.purse(3, 0, 0, 0);
            e.due("paid(3, 0)", x.paid(3, 0), 0);
            e.due("paid(3, 1)", x.paid(3, 1), 0);
        });
        s.test("Section 3, promise 16", words, "just enough, and more than that", e -> {
            ToupeeWind x = new ToupeeWind();
            x.likes(3, 0, 0);
            for (int owes = 1; owes <= 6; owes++) {
                x.walker(3, 3, 0, owes);
                e.due("owing " + owes + ": paid(3, 0)", x.paid(3, 0), owes <= 3 ? 1 : 2);
            }
        });
        s.test("Section 3, promise 16", words, "of his: all of them, and nine of one", e -> {
            ToupeeWind x = new ToupeeWind();
            x.walker(3, 3, 0, 6);
            e.due("all: paid(3, 0)", x.paid(3, 0), 6);
            e.due("all: paid(3, 1)", x.paid(3, 1), 222);
            x.purse(3, 0, 0, 9);
            x.walker(3, 3, 0, 9);
            e.due("nine sheets: paid(3, 0)", x.paid(3, 0), 9);
            e.due("nine sheets: paid(3, 1)", x.paid(3, 1), 9);
            x.purse(3, 9, 0, 0);
            e.due("nine gates: paid(3, 1)", x.paid(3, 1), 900);
            x.purse(3, 0, 9, 0);
            e.due("nine flags: paid(3, 1)", x.paid(3, 1), 90);
        });
        s.test("Section 3, promise 16", words, "each kind by what it is liked by", e -> {
            ToupeeWind x = new ToupeeWind();
            x.walker(3, 3, 0, 3);
            x.likes(3, 1, 2);
            e.due("a gate: paid(3, 1)", x.paid(3, 1), 100);
            x.likes(2, 3, 1);
            e.due("a flag: paid(3, 1)", x.paid(3, 1), 10);
            x.likes(1, 2, 3);
            e.due("a sheet: paid(3, 1)", x.paid(3, 1), 1);
            x.likes(0, 2, 0);
            e.due("flags alone: paid(3, 1)", x.paid(3, 1), 20);
            x.likes(0, 0, 2);
            e.due("sheets alone: paid(3, 1)", x.paid(3, 1), 2);
        });
        String which = "which, as 100 times GATES, 10 times FLAGS, and SHEETS, the least of as few; NONE.";
        s.test("Section 3, promise 16", which, "sheets ahead of flags ahead of gates, if as few", e -> {
            ToupeeWind x = new ToupeeWind();
            x.walker(3, 3, 0, 3);
            e.due("paid(3, 1)", x.paid(3, 1), 12);
            x.purse(3, 2, 2, 0);
            e.due("without sheets: paid(3, 1)", x.paid(3, 1), 120);
            x.likes(3, 2, 2);
            x.purse(3, 2, 2, 2);
            x.walker(3, 3, 0, 4);
            e.due("two sheets or a gate and one: paid(3, 1)", x.paid(3, 1), 2);
            x.walker(3, 3, 0, 5);
            e.due("a gate and a sheet: paid(3, 1)", x.paid(3, 1), 101);
            x.walker(3, 3, 0, 3);
            e.due("a gate alone is fewer than two sheets: paid(3, 1)", x.paid(3, 1), 100);
        });
        s.test("Section 3, promise 16", which, "NONE: one is left to owe, it likes nothing, he has nothing", e -> {
            ToupeeWind x = new ToupeeWind();
            x.walker(3, 3, 0, 7);
            x.walker(4, 4, 0, 1);
            for (int what = 0; what < 2; what++) {
                e.due("six goods for 7: paid(3, " + what + ")", x.paid(3, what), NONE);
            }
            x.likes(0, 0, 0);
            x.purse(4, 9, 9, 9);
            for (int what = 0; what < 2; what++) {
                e.due("it likes nothing: paid(4, " + what + ")", x.paid(4, what), NONE);
            }
            x.likes(3, 3, 3);
            x.purse(4, 0, 0, 0);
            for (int what = 0; what < 2; what++) {
                e.due("he has nothing: paid(4, " + what + ")", x.paid(4, what), NONE);
            }
        });
    }

    private static void promises(Sentences s) {
        s.test("Promise 13", "WHEN, as bits.", "bit 0 and bit 7", e -> {
            ToupeeWind x = new ToupeeWind();
            e.due("when(8)", x.when(8), 1);
            e.due("when(7)", x.when(7), 128);
        });
        s.test("Promise 13", "UNKNOWN.", "cells 0 to 11", e ->
            Twins.range(e, "when(_)", (x, n) -> x.when(n), 0, 11, UNKNOWN));
        s.test("Promise 14", "PASS: behind how many (what = 0), what first (1); NONE.", "both", e -> {
            ToupeeWind x = new ToupeeWind();
            e.due("pass(3, 0, 0)", x.pass(3, 0, 0), 3);
            e.due("pass(3, 0, 1)", x.pass(3, 0, 1), 2);
            x.wind(0, 0, 9);
            e.due("pass(3, 0, 0)", x.pass(3, 0, 0), NONE);
            e.due("pass(3, 0, 1)", x.pass(3, 0, 1), NONE);
        });
        s.test("Promise 14", "UNKNOWN: both;", "cells 0 to 11, also where he is", e -> {
            Twins.range(e, "pass(_, 3, 0)", (x, n) -> x.pass(n, 3, 0), 0, 11, UNKNOWN);
            Twins.range(e, "pass(3, _, 1)", (x, n) -> x.pass(3, n, 1), 0, 11, UNKNOWN);
            Twins.range(e, "pass(_, _, 0)", (x, n) -> x.pass(n, n, 0), 0, 11, UNKNOWN);
        });
        s.test("Promise 14", "OUTSIDE.", "0 and 1, also where he is", e -> {
            Twins.range(e, "pass(3, 5, _)", (x, n) -> x.pass(3, 5, n), 0, 1, OUTSIDE);
            Twins.range(e, "pass(3, 3, _)", (x, n) -> x.pass(3, 3, n), 0, 1, OUTSIDE);
        });
        s.test("Promise 15", "ARMS: how many (what = 0), which (1).", "both", e -> {
            ToupeeWind x = new ToupeeWind();
            x.walker(4, 4, 1, 0);
            e.due("arms(1, 0)", x.arms(1, 0), 1);
            e.due("arms(1, 1)", x.arms(1, 1), 8);
            e.due("arms(0, 0)", x.arms(0, 0), 0);
            e.due("arms(0, 1)", x.arms(0, 1), 0);
        });
        s.test("Promise 15", "OUTSIDE: d, what.", "0 to 11, 0 and 1", e -> {
            Twins.range(e, "arms(_, 0)", (x, n) -> x.arms(n, 0), 0, 11, OUTSIDE);
            Twins.range(e, "arms(1, _)", (x, n) -> x.arms(1, n), 0, 1, OUTSIDE);
        });
        s.test("Promise 16", "PAID: how many (what = 0), which (1); NONE.", "both", e -> {
            ToupeeWind x = new ToupeeWind();
            x.walker(5, 5, 0, 2);
            e.due("paid(5, 0)", x.paid(5, 0), 2);
            e.due("paid(5, 1)", x.paid(5, 1), 2);
            x.purse(5, 0, 1, 0);
            e.due("paid(5, 0)", x.paid(5, 0), NONE);
            e.due("paid(5, 1)", x.paid(5, 1), NONE);
        });
        s.test("Promise 16", "UNKNOWN;", "walkers 0 to 5", e ->
            Twins.range(e, "paid(_, 0)", (x, n) -> x.paid(n, 0), 0, 5, UNKNOWN));
        s.test("Promise 16", "OUTSIDE.", "0 and 1", e ->
            Twins.range(e, "paid(0, _)", (x, n) -> x.paid(0, n), 0, 1, OUTSIDE));
    }
}
