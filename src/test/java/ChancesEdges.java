import java.util.function.Predicate;

/** Section 4, on, and promises 21 to 23: bowls, gales, years. */
final class ChancesEdges {
    private static final int NONE = -6;
    private static final int UNKNOWN = -1;
    private static final int OUTSIDE = -2;
    private static final long LOST = -1000000000000000000L;

    private ChancesEdges() {
    }

    static void add(Sentences s) {
        bowls(s);
        gale(s);
        yearOf(s);
        yearWalks(s);
        yearStatesAndPays(s);
        yearHolds(s);
        yearBlows(s);
        yearTells(s);
        promises(s);
    }

    private static void bowled(Expect e, int n, int z, int take) {
        ToupeeWind x = new ToupeeWind();
        e.due("bowls(" + n + ", " + z + ", 0)", x.bowls(n, z, 0), take == NONE ? 0 : 1);
        e.due("bowls(" + n + ", " + z + ", 1)", x.bowls(n, z, 1), take);
    }

    private static void bowls(Sentences s) {
        String words = "BOWLS: of n (0 to 99) two by turns take 1 to 4, but not as many as the other one just took"
            + " (z: 0, nobody did, to 4);";
        s.test("Section 4, promise 21", words, "1 to 4: all of 4 can be taken, not all of 5", e -> {
            bowled(e, 1, 0, 1);
            bowled(e, 3, 0, 3);
            bowled(e, 4, 0, 4);
            bowled(e, 5, 0, NONE);
        });
        s.test("Section 4, promise 21", words, "not as many as the other one just took", e -> {
            bowled(e, 1, 1, NONE);
            bowled(e, 2, 1, 2);
            bowled(e, 2, 2, 1);
            bowled(e, 3, 3, NONE);
            bowled(e, 4, 4, NONE);
            bowled(e, 4, 3, 4);
        });
        s.test("Section 4, promise 21", words, "99 of them", e -> {
            bowled(e, 99, 4, 2);
            for (int z = 0; z <= 4; z++) {
                bowled(e, 99, z, take(99, z, new int[100][5]));
            }
        });
        s.test("Section 4, promise 21", "who can not has lost:", "none is there; one is, and 1 was just taken", e -> {
            for (int z = 0; z <= 4; z++) {
                bowled(e, 0, z, NONE);
            }
            bowled(e, 1, 1, NONE);
            bowled(e, 1, 2, 1);
        });
        s.test("Section 4, promise 21", "whether who begins can win (1, 0); how many he takes first for it, the least (NONE).",
            "the least of two that win", e -> {
            bowled(e, 2, 0, 1);
            bowled(e, 2, 3, 1);
        });
    }

    /** The least winning take, by looking at all; 0 in known: not known yet. */
    private static int take(int n, int z, int[][] known) {
        if (known[n][z] == 0) {
            int best = NONE;
            for (int t = Math.min(4, n); t >= 1; t--) {
                best = t != z && take(n - t, t, known) == NONE ? t : best;
            }
            known[n][z] = best;
        }
        return known[n][z];
    }

    private static void gale(Sentences s) {
        String words = "GALE: THE WIND is on any CELL, with any WAY, with any FORCE 1 to 9, each as likely:"
            + " that it comes to a CELL in an hour;";
        s.test("Section 4, promise 22", words, "the first cell, the last one, the middle ones", e -> {
            ToupeeWind x = new ToupeeWind();
            // To 0: down from 1 to 9 by as many or more, and up from 11, 10, .. never; down from 0 it turns.
            e.due("gale(0, 0, 0)", x.gale(0, 0, 0), 5);
            e.due("gale(0, 0, 1)", x.gale(0, 0, 1), 24);
            e.due("gale(11, 0, 0)", x.gale(11, 0, 0), 5);
            e.due("gale(11, 0, 1)", x.gale(11, 0, 1), 24);
            e.due("gale(5, 0, 0)", x.gale(5, 0, 0), 11);
            e.due("gale(6, 0, 0)", x.gale(6, 0, 0), 11);
        });
        s.test("Section 4, promise 22", words, "what it is now is no matter", e -> {
            ToupeeWind x = new ToupeeWind();
            x.wind(11, 1, 9);
            e.due("gale(0, 0, 0)", x.gale(0, 0, 0), 5);
            e.due("gale(0, 0, 1)", x.gale(0, 0, 1), 24);
            Twins.untouched(e, Twins::lively, "gale(3, 0, 0)", y -> y.gale(3, 0, 0));
        });
        String mean = "to how many CELLS it comes in the mean (the CELL is no matter, but as told).";
        s.test("Section 4, promise 22", mean, "each cell, the same; no cell that there is not", e -> {
            ToupeeWind x = new ToupeeWind();
            for (int cell = 0; cell < 12; cell++) {
                e.due("gale(" + cell + ", 1, 0)", x.gale(cell, 1, 0), 245);
                e.due("gale(" + cell + ", 1, 1)", x.gale(cell, 1, 1), 54);
            }
            e.due("gale(12, 1, 0)", x.gale(12, 1, 0), LOST + UNKNOWN);
            e.due("gale(-1, 1, 1)", x.gale(-1, 1, 1), LOST + UNKNOWN);
        });
    }

    private static int next(int x) {
        return (75 * x + 74) % 65537;
    }

    /** The act of a draw, as a text. */
    private static String act(int x) {
        char letter = (char) ('A' + x % 6);
        int z = x / 48;
        switch (x / 6 % 8) {
            case 0: return letter + ">";
            case 1: return letter + "<";
            case 2: return letter + "" + z % 8;
            case 3: return letter + "" + "gfs".charAt(z % 3);
            case 4: return letter + "^";
            case 5: return z / 6 % 2 == 0 ? letter + "&" + (char) ('A' + z % 6) : letter + "|";
            case 6: return z % 4 == 0 ? "!" : ".";
            default: return ".";
        }
    }

    /** A seed whose first draws are such ones; -1 if there is none. */
    @SafeVarargs
    private static int seed(Predicate<Integer>... draws) {
        for (int seed = 0; seed <= 9999; seed++) {
            int x = seed;
            int n = 0;
            do {
                x = next(x);
            } while (draws[n].test(x) && ++n < draws.length);
            if (n == draws.length) {
                return seed;
            }
        }
        return -1;
    }

    private static Predicate<Integer> is(String act) {
        return x -> act(x).equals(act);
    }

    /** All on cell 0, but one, and the wind elsewhere. */
    private static ToupeeWind alone(int walker, int cell, int hours, int owes) {
        ToupeeWind x = new ToupeeWind();
        for (int other = 0; other < 6; other++) {
            x.walker(other, 0, 0, 0);
        }
        x.walker(walker, cell, hours, owes);
        return x;
    }

    /** The one act, and then an hour: who has it off. */
    private static void lost(Expect e, ToupeeWind x, String act, int off) {
        int seed = seed(is(act), is("."));
        e.holds("there is a seed for " + act, seed >= 0);
        e.due(act + " and an hour: year(" + seed + ", 2, 0)", x.year(seed, 2, 0), off);
    }

    private static void yearOf(Sentences s) {
        String words = "A YEAR by a seed (0 to 9999) of m ACTS (1 to 99), from all as it is:";
        s.test("Section 4, promise 23", words, "the least and the greatest seed, one act, 98 and 99", e -> {
            ToupeeWind x = new ToupeeWind();
            for (int seed : new int[] {0, 1, 77, 9998, 9999}) {
                for (int m : new int[] {1, 2, 98, 99}) {
                    plainYear(e, x, new PlainTown(), seed, m);
                }
            }
        });
        s.test("Section 4, promise 23", words, "one act is one, an hour ahead of which nothing was lost", e -> {
            ToupeeWind x = new ToupeeWind();
            int seed = seed(is("."), is("."), is("."));
            for (int m = 1; m <= 3; m++) {
                e.due("m = " + m, x.year(seed, m, 2), m);
            }
        });
        s.test("Section 4, promise 23", words, "from all as it is, not as it was at first", e -> {
            ToupeeWind x = new ToupeeWind();
            Expect.text(x, "..").done();
            int seed = seed(is("."));
            e.due("off", x.year(seed, 1, 0), 2 | 4 | 8);
            e.due("how many", x.year(seed, 1, 2), 1);
        });
        s.test("Section 4, promise 23", "x becomes (75 x and 74) left over by 65537;", "seeds by which it goes round, and not", e -> {
            // 75 times 872, and 74, are 65474; 873 goes round to 12.
            e.due("872", next(872), 65474);
            e.due("873", next(873), 12);
            for (int seed = 865; seed <= 880; seed++) {
                plainYear(e, new ToupeeWind(), new PlainTown(), seed, 60);
            }
        });
        String drawn = "of WALKER x left over by 6, by x by 6 (cut) left over by 8, z being x by 48 (cut):";
        s.test("Section 4, promise 23", drawn, "every walker draws every kind", e -> {
            for (int n = 0; n < 48; n++) {
                int want = n;
                int seed = seed(x -> x % 48 == want);
                PlainTown t = new PlainTown();
                ToupeeWind x = new ToupeeWind();
                for (int walker = 0; walker < 6; walker++) {
                    x.walker(walker, walker, 85, 3 + walker);
                    t.place(walker, walker, 85, 3 + walker);
                }
                plainYear(e, x, t, seed, 30);
            }
        });
    }

    /** The same by PlainTown, from a town that is as the object is. */
    private static void plainYear(Expect e, ToupeeWind x, PlainTown t, int seed, int m) {
        PlainTown copy = t.copy();
        int draw = seed;
        for (int n = 0; n < m; n++) {
            draw = next(draw);
            copy.attempt(act(draw));
        }
        int owed = copy.people.stream().mapToInt(p -> p.owes).sum();
        String call = "year(" + seed + ", " + m + ", ";
        e.due(call + "0)", x.year(seed, m, 0), copy.off());
        e.due(call + "1)", x.year(seed, m, 1), owed);
        e.due(call + "2)", x.year(seed, m, 2), copy.losses);
    }

    private static void yearWalks(Sentences s) {
        s.test("Section 4, promise 23", "0 he goes up, 1 down,", "each walker, into the wind", e -> {
            for (int walker = 0; walker < 6; walker++) {
                char letter = (char) ('A' + walker);
                ToupeeWind x = alone(walker, 5, 0, 0);
                x.wind(5, 0, 1);
                lost(e, x, letter + ">", 1 << walker);
                lost(e, x, letter + "<", 0);
                x.wind(5, 1, 1);
                lost(e, x, letter + "<", 1 << walker);
                lost(e, x, letter + ">", 0);
            }
        });
        s.test("Section 4, promise 23", "each if that can be:", "not beyond the ends: he stays, and the wind comes there", e -> {
            for (int walker = 0; walker < 6; walker++) {
                char letter = (char) ('A' + walker);
                ToupeeWind x = alone(walker, 11, 0, 0);
                x.wind(10, 0, 1);
                lost(e, x, letter + ">", 1 << walker);
                x.wind(1, 1, 1);
                lost(e, x, letter + "<", 63 - (1 << walker));
            }
        });
        s.test("Section 4, promise 23", "each if that can be:", "what can not be is left out, and the next comes", e -> {
            ToupeeWind x = new ToupeeWind();
            x.wind(0, 0, 9);
            int seed = seed(is("!"), is("."));
            e.due("no gale beyond 9, but the hour", x.year(seed, 2, 2), 5);
            x.walker(0, 1, 0, 4);
            x.wind(0, 0, 1);
            lost(e, x, "A1", 1 | 2);
            seed = seed(is("Ag"));
            x.walker(0, 1, 0, 4);
            x.purse(0, 0, 2, 2);
            e.due("no gate: what is owed", x.year(seed, 1, 1), 4);
        });
        s.test("Section 4, promise 23", "4 his TOUPEE is ON,", "it lies where he is, or elsewhere, or is on", e -> {
            for (int walker = 0; walker < 6; walker++) {
                ToupeeWind x = alone(walker, 11, 0, 0);
                x.wind(10, 0, 1);
                Expect.text(x, ".").done();
                int seed = seed(is((char) ('A' + walker) + "^"));
                e.due("off: told(7)", x.told(7), 1 << walker);
                e.due("on his: year(" + seed + ", 1, 0)", x.year(seed, 1, 0), 0);
                Expect.text(x, (char) ('A' + walker) + "<").done();
                e.due("elsewhere: year(" + seed + ", 1, 0)", x.year(seed, 1, 0), 1 << walker);
                x.walker(walker, 11, 0, 0);
                e.due("on: year(" + seed + ", 1, 0)", x.year(seed, 1, 0), 0);
            }
        });
    }

    private static void yearStatesAndPays(Sentences s) {
        s.test("Section 4, promise 23", "2 he STATES HOUR z left over by 8, or no more,", "each hour, stated before or not", e -> {
            for (int hour = 0; hour < 8; hour++) {
                int want = hour;
                int seed = seed(x -> x / 6 % 8 == 2 && x / 48 % 8 == want, is("."));
                int walker = next(seed) % 6;
                ToupeeWind x = new ToupeeWind();
                Expect.text(x, ".".repeat((hour + 7) % 8)).done();
                for (int other = 0; other < 6; other++) {
                    x.walker(other, 0, 0, 0);
                }
                x.wind(4, 0, 1);
                x.walker(walker, 5, 0, 3);
                e.due("hour " + hour + " is stated", x.year(seed, 2, 0), 0);
                x.walker(walker, 5, 1 << hour, 3);
                e.due("hour " + hour + " is no more", x.year(seed, 2, 0), 1 << walker);
                x.walker(walker, 5, 0, 4);
                e.due("hour " + hour + " can not be stated", x.year(seed, 2, 0), 1 << walker);
            }
        });
        s.test("Section 4, promise 23", "3 he pays a GATE, FLAG, SHEET (z left over by 3: 0, 1, 2),", "each walker, each kind", e -> {
            for (int walker = 0; walker < 6; walker++) {
                for (int kind = 0; kind < 3; kind++) {
                    ToupeeWind x = alone(walker, 0, 0, 9);
                    x.likes(1, 2, 3);
                    int seed = seed(is((char) ('A' + walker) + "" + "gfs".charAt(kind)));
                    e.due("kind " + kind + " of " + walker, x.year(seed, 1, 1), 8 - kind);
                    x.purse(walker, kind == 0 ? 0 : 9, kind == 1 ? 0 : 9, kind == 2 ? 0 : 9);
                    e.due("none of kind " + kind, x.year(seed, 1, 1), 9);
                }
            }
        });
    }

    private static void yearHolds(Sentences s) {
        String words = "5 he HOLDS WALKER z left over by 6, if z by 6 (cut) left over by 2 is 0, else nobody,";
        s.test("Section 4, promise 23", words, "each other one, himself, and whom he can not reach", e -> {
            int found = 0;
            for (int n = 0; n < 36; n++) {
                int walker = n / 6;
                int other = n % 6;
                int seed = seed(is((char) ('A' + walker) + "&" + (char) ('A' + other)), is("."));
                if (seed < 0) {
                    continue;
                }
                found++;
                ToupeeWind x = alone(other, 5, 0, 0);
                x.wind(4, 0, 1);
                x.walker(walker, 5, 2, 0);
                e.due(walker + " takes " + other, x.year(seed, 2, 0), 0);
                if (walker != other) {
                    x.walker(walker, 6, 2, 0);
                    e.due(walker + " can not reach " + other, x.year(seed, 2, 0), 1 << other);
                }
            }
            e.holds("most of the 36 pairs have a seed", found >= 30);
        });
        s.test("Section 4, promise 23", words, "nobody: whom he held is blown on", e -> {
            for (int walker = 0; walker < 6; walker++) {
                int other = (walker + 1) % 6;
                ToupeeWind x = alone(other, 5, 0, 0);
                x.wind(4, 0, 1);
                x.walker(walker, 5, 2, 0);
                char letter = (char) ('A' + walker);
                Expect.text(x, letter + "&" + (char) ('A' + other)).done();
                lost(e, x, letter + "|", 1 << other);
                e.due("held: an hour alone", x.year(seed(is(".")), 1, 0), 0);
            }
        });
    }

    private static void yearBlows(Sentences s) {
        String words = "6 a gale, if z left over by 4 is 0, else an hour, 7 an hour;";
        s.test("Section 4, promise 23", words, "a gale, and an hour by 1, by 2, by 3", e -> {
            ToupeeWind x = new ToupeeWind();
            for (int rest = 0; rest < 4; rest++) {
                int want = rest;
                int seed = seed(d -> d / 6 % 8 == 6 && d / 48 % 4 == want, is("."));
                e.due("left over " + rest + ": one act", x.year(seed, 1, 2), rest == 0 ? 0 : 1);
                e.due("left over " + rest + ": two acts", x.year(seed, 2, 2), 2);
                e.due("left over " + rest + ": two acts", x.year(seed, 2, 0), 2 | 4);
            }
        });
        s.test("Section 4, promise 23", words, "an hour by 7, whatever is left over", e -> {
            ToupeeWind x = new ToupeeWind();
            for (int rest = 0; rest < 4; rest++) {
                int want = rest;
                int seed = seed(d -> d / 6 % 8 == 7 && d / 48 % 4 == want);
                e.due("left over " + rest, x.year(seed, 1, 2), 1);
            }
        });
        s.test("Section 4, promise 23", words, "a day goes by: all owe more", e -> {
            ToupeeWind x = new ToupeeWind();
            Expect.text(x, ".......").done();
            for (int walker = 0; walker < 6; walker++) {
                x.walker(walker, 0, 255, walker);
            }
            e.due("owed behind hour 7", x.year(seed(is(".")), 1, 1), 4 + 5 + 6 + 7 + 8 + 9);
        });
    }

    private static void yearTells(Sentences s) {
        String words = "TOUPEES that are OFF (bits); what all OWE, added; how many had it OFF in it.";
        s.test("Section 4, promise 23", words, "off ahead of it, too; in it alone", e -> {
            ToupeeWind x = new ToupeeWind();
            x.wind(0, 0, 5);
            Expect.text(x, ".").done();
            x.wind(11, 1, 1);
            e.due("off: told(7)", x.told(7), 62);
            e.due("off", x.year(seed(is(".")), 1, 0), 62);
            e.due("how many", x.year(seed(is(".")), 1, 2), 0);
        });
        s.test("Section 4, promise 23", words, "one is counted again", e -> {
            ToupeeWind x = alone(0, 1, 0, 0);
            x.wind(0, 1, 1);
            Expect.text(x, ".A>").done();
            x.wind(1, 0, 1);
            int seed = seed(is("A^"), is("."));
            e.due("off", x.year(seed, 2, 0), 1);
            e.due("how many", x.year(seed, 2, 2), 1);
        });
        s.test("Section 4, promise 23", words, "all six off; nothing and 54 owed", e -> {
            ToupeeWind x = new ToupeeWind();
            int seed = seed(is("."));
            e.due("nothing", x.year(seed, 1, 1), 0);
            for (int walker = 0; walker < 6; walker++) {
                x.walker(walker, 1, 0, 9);
            }
            e.due("all", x.year(seed, 1, 1), 54);
            e.due("off", x.year(seed, 1, 0), 63);
            e.due("how many", x.year(seed, 1, 2), 6);
        });
        s.test("Section 4, promise 23", "Nothing is DONE in fact.", "nothing, whichever is told", e -> {
            for (int what = 0; what < 3; what++) {
                int told = what;
                Twins.untouched(e, Twins::lively, "year(9999, 99, " + what + ")", x -> x.year(9999, 99, told));
                Twins.untouched(e, Twins::faulty, "year(77, 99, " + what + ")", x -> x.year(77, 99, told));
            }
        });
    }

    private static void promises(Sentences s) {
        s.test("Promise 21", "BOWLS: whether (what = 0), how many (1; NONE).", "won, lost", e -> {
            bowled(e, 4, 0, 4);
            bowled(e, 0, 0, NONE);
            Twins.untouched(e, Twins::lively, "bowls(99, 4, 1)", x -> x.bowls(99, 4, 1));
        });
        s.test("Promise 21", "BOWLS: whether (what = 0), how many (1; NONE).", "many first, then few, then many", e -> {
            ToupeeWind x = new ToupeeWind();
            for (int n : new int[] {99, 0, 4, 5, 13, 98, 1, 99}) {
                e.due("bowls(" + n + ", 0, 1)", x.bowls(n, 0, 1), take(n, 0, new int[100][5]));
            }
        });
        s.test("Promise 21", "OUTSIDE.", "0 to 99, 0 to 4, 0 and 1", e -> {
            Twins.range(e, "bowls(_, 0, 0)", (x, n) -> x.bowls(n, 0, 0), 0, 99, OUTSIDE);
            Twins.range(e, "bowls(9, _, 0)", (x, n) -> x.bowls(9, n, 0), 0, 4, OUTSIDE);
            Twins.range(e, "bowls(9, 0, _)", (x, n) -> x.bowls(9, 0, n), 0, 1, OUTSIDE);
        });
        s.test("Promise 22", "GALE: that it comes (what = 0), the mean (1).", "both", e -> {
            ToupeeWind x = new ToupeeWind();
            e.due("gale(1, 0, 0)", x.gale(1, 0, 0), 71);
            e.due("gale(1, 1, 0)", x.gale(1, 1, 0), 245);
        });
        s.test("Promise 22", "UNKNOWN, as LOST and it;", "cells 0 to 11", e ->
            Twins.range(e, "gale(_, 1, 1)", (x, n) -> x.gale(n, 1, 1), 0, 11, LOST + UNKNOWN));
        s.test("Promise 22", "OUTSIDE.", "0 and 1, both", e -> {
            Twins.range(e, "gale(4, _, 0)", (x, n) -> x.gale(4, n, 0), 0, 1, LOST + OUTSIDE);
            Twins.range(e, "gale(4, 0, _)", (x, n) -> x.gale(4, 0, n), 0, 1, LOST + OUTSIDE);
        });
        s.test("Promise 23", "A YEAR: OFF (what = 0), OWED (1), how many (2).", "each", e -> {
            ToupeeWind x = new ToupeeWind();
            x.walker(5, 1, 0, 7);
            int seed = seed(is("."));
            e.due("year(" + seed + ", 1, 0)", x.year(seed, 1, 0), 2 | 32);
            e.due("year(" + seed + ", 1, 1)", x.year(seed, 1, 1), 7);
            e.due("year(" + seed + ", 1, 2)", x.year(seed, 1, 2), 2);
        });
        s.test("Promise 23", "OUTSIDE.", "0 to 9999, 1 to 99, 0 to 2", e -> {
            Twins.range(e, "year(_, 3, 0)", (x, n) -> x.year(n, 3, 0), 0, 9999, OUTSIDE);
            Twins.range(e, "year(5, _, 1)", (x, n) -> x.year(5, n, 1), 1, 99, OUTSIDE);
            Twins.range(e, "year(5, 3, _)", (x, n) -> x.year(5, 3, n), 0, 2, OUTSIDE);
        });
    }
}
