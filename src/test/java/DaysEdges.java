/** Section 2, and promises 9 to 12: texts judged, done, and what is behind them. */
final class DaysEdges {
    private static final int NONE = -6;
    private static final int UNKNOWN = -1;
    private static final int OUTSIDE = -2;
    private static final int NO = -5;

    private DaysEdges() {
    }

    static void add(Sentences s) {
        judged(s);
        done(s);
        behind(s);
        ofAll(s);
        losses(s);
        judge(s);
        donePromise(s);
        behindPromise(s);
        thenPromise(s);
    }

    private static void judged(Sentences s) {
        String words = "JUDGED: of DAYS the first ACT (from 0 on) that can not be, and why.";
        s.test("Section 2, promise 9", words, "the first act, the last of sixty, and acts of two and three signs", e -> {
            ToupeeWind x = new ToupeeWind();
            x.wind(0, 0, 9);
            Expect.text(x, "!" + ".".repeat(59));
            e.due("judge(0), the first", x.judge(0), 0);
            e.due("judge(1), the first", x.judge(1), 9);
            Expect.text(x, ".".repeat(59) + "!");
            e.due("judge(0), the last", x.judge(0), 59);
            e.due("judge(1), the last", x.judge(1), 9);
            Expect.text(x, "A>A&B.A|A|");
            e.due("judge(0), acts are not signs", x.judge(0), 4);
            e.due("judge(1), acts are not signs", x.judge(1), 8);
        });
        s.test("Section 2, promise 9", words, "the first of two, as it is when its turn comes", e -> {
            ToupeeWind x = Expect.text(new ToupeeWind(), "A>A<A<A|");
            e.due("judge(0)", x.judge(0), 2);
            e.due("judge(1)", x.judge(1), 2);
        });
    }

    private static void done(Sentences s) {
        s.test("Section 2, promise 10", "DONE: all is so then.", "all that BEHIND told", e -> {
            ToupeeWind x = Twins.lively();
            ToupeeWind y = Twins.lively();
            y.done();
            for (int walker = 0; walker < 6; walker++) {
                int goods = 100 * x.behind(walker, 5) + 10 * x.behind(walker, 6) + x.behind(walker, 7);
                e.due("goods of " + walker, y.told(60 + walker), goods);
                for (int what = 0; what < 5; what++) {
                    e.due("walker " + walker + ", " + what, y.told(10 + 10 * what + walker), x.behind(walker, what));
                }
            }
            for (int what = 0; what < 6; what++) {
                e.due("of all, " + what, y.told(1 + what), x.then(what));
            }
        });
        s.test("Section 2, promise 10", "DONE: all is so then.", "nothing said: nothing changes", e -> {
            ToupeeWind x = Expect.text(Twins.lively(), "");
            e.due("done()", x.done(), 0);
            e.holds("all is as it was", Twins.all(x).equals(Twins.all(Expect.text(Twins.lively(), ""))));
        });
    }

    private static void behind(Sentences s) {
        String words = "BEHIND, likewise, not being DONE: of a WALKER the CELL, HOURS (bits), what he OWES, whom he HOLDS (NONE),"
            + " where his TOUPEE lies (NONE: ON), GATES, FLAGS, SHEETS;";
        s.test("Section 2, promise 11", words, "nothing said: as it is", e -> {
            ToupeeWind x = new ToupeeWind();
            x.walker(4, 11, 255, 9);
            x.purse(4, 9, 0, 7);
            int[] due = {11, 255, 9, NONE, NONE, 9, 0, 7};
            for (int what = 0; what < 8; what++) {
                e.due("behind(4, " + what + ")", x.behind(4, what), due[what]);
            }
        });
        s.test("Section 2, promise 11", words, "it is not done", e -> {
            Twins.Maker maker = () -> Expect.text(Twins.lively(), "A5.!..E|C<F6");
            ToupeeWind x = maker.make();
            for (int what = 0; what < 8; what++) {
                x.behind(4, what);
                x.then(what);
            }
            e.holds("all is as it was", Twins.all(x).equals(Twins.all(maker.make())));
        });
        s.test("Section 2, promise 11", words, "each, changed by a text", e -> {
            ToupeeWind x = new ToupeeWind();
            x.walker(0, 1, 0, 3);
            Expect.text(x, "AgAfA7A&B.A>");
            int[] due = {2, 128, 1, 1, 2, 1, 1, 2};
            for (int what = 0; what < 8; what++) {
                e.due("behind(0, " + what + ")", x.behind(0, what), due[what]);
            }
        });
    }

    private static void ofAll(Sentences s) {
        String words = "of all: the CELL of THE WIND, its WAY (0 up, 1 down), its FORCE, the hour, the day, HUSHED ones (bits),";
        s.test("Section 2, promise 12", words, "nothing said: as it is", e -> {
            ToupeeWind x = new ToupeeWind();
            x.wind(11, 1, 9);
            x.walker(5, 5, 1, 3);
            int[] due = {11, 1, 9, 0, 0, 32};
            for (int what = 0; what < 6; what++) {
                e.due("then(" + what + ")", x.then(what), due[what]);
            }
        });
        s.test("Section 2, promise 12", words, "it turned, and a day went by", e -> {
            ToupeeWind x = new ToupeeWind();
            x.wind(10, 0, 1);
            x.walker(5, 5, 2, 0);
            Expect.text(x, "!.!.......!.");
            int[] due = {7, 1, 4, 1, 1, 32};
            for (int what = 0; what < 6; what++) {
                e.due("then(" + what + ")", x.then(what), due[what]);
            }
        });
    }

    private static void losses(Sentences s) {
        String count = "how many had it OFF in the text,";
        s.test("Section 2, promise 12", count, "none, one, all six in an hour", e -> {
            ToupeeWind x = new ToupeeWind();
            e.due("nothing said", x.then(6), 0);
            e.due("an hour", Expect.text(x, ".").then(6), 1);
            x.walker(0, 6, 0, 0);
            x.wind(0, 0, 6);
            e.due("a strong one", x.then(6), 6);
        });
        s.test("Section 2, promise 12", count, "one who puts it on and has it off again counts again", e -> {
            ToupeeWind x = new ToupeeWind();
            for (int walker = 1; walker < 6; walker++) {
                x.walker(walker, 0, 0, 0);
            }
            x.walker(0, 1, 0, 0);
            e.due("three times", Expect.text(x, ".A>A^.A>A^.").then(6), 3);
        });
        s.test("Section 2, promise 12", count, "what was off ahead of the text does not count", e -> {
            ToupeeWind x = new ToupeeWind();
            Expect.text(x, ".").done();
            e.due("told(7)", x.told(7), 2);
            e.due("nothing said", x.then(6), 0);
            e.due("an hour", Expect.text(x, ".").then(6), 1);
            e.due("who", x.then(8), 2);
        });
        String first = "the first ACT by which one had, who, the first (NONE).";
        s.test("Section 2, promise 12", first, "nobody", e -> {
            ToupeeWind x = new ToupeeWind();
            e.due("nothing said: the act", x.then(7), NONE);
            e.due("nothing said: who", x.then(8), NONE);
            Expect.text(x, "!A>A7B1.");
            x.wind(11, 1, 1);
            e.due("an hour: the act", x.then(7), NONE);
            e.due("an hour: who", x.then(8), NONE);
        });
        s.test("Section 2, promise 12", first, "act 0, and acts of two and three signs ahead of it", e -> {
            ToupeeWind x = Expect.text(new ToupeeWind(), ".");
            e.due("the act", x.then(7), 0);
            e.due("who", x.then(8), 1);
            Expect.text(x, "A>A&B!B3.");
            e.due("the act", x.then(7), 4);
            e.due("who", x.then(8), 0);
        });
        s.test("Section 2, promise 12", first, "by the last of sixty signs", e -> {
            ToupeeWind x = new ToupeeWind();
            x.wind(1, 1, 9);
            Expect.text(x, ".".repeat(8)).done();
            e.due("all have it off", x.told(7), 63);
            // Of 22 hours, from cell 0 and up, only the last comes to cell 0.
            x.wind(0, 0, 1);
            x.walker(4, 0, 0, 0);
            Expect.text(x, ".".repeat(21));
            e.due("how many in 21 hours", x.then(6), 0);
            Expect.text(x, "E1".repeat(19) + ".".repeat(22));
            e.due("the act", x.then(7), 40);
            e.due("who", x.then(8), 4);
        });
        s.test("Section 2, promise 12", first, "the first of two losses", e -> {
            ToupeeWind x = new ToupeeWind();
            x.walker(0, 3, 0, 0);
            x.walker(3, 2, 0, 0);
            x.walker(1, 8, 0, 0);
            x.walker(2, 8, 0, 0);
            Expect.text(x, "...");
            e.due("the act", x.then(7), 1);
            e.due("who", x.then(8), 3);
        });
    }

    private static void judge(Sentences s) {
        s.test("Promise 9", "JUDGED: the ACT (what = 0), why (1); NONE.", "an act, none, nothing said", e -> {
            ToupeeWind x = new ToupeeWind();
            for (int what = 0; what < 2; what++) {
                e.due("nothing said: judge(" + what + ")", x.judge(what), NONE);
            }
            Expect.text(x, "..A<");
            e.due("judge(0)", x.judge(0), 2);
            e.due("judge(1)", x.judge(1), 2);
            Expect.text(x, "..A>");
            e.due("judge(0)", x.judge(0), NONE);
            e.due("judge(1)", x.judge(1), NONE);
        });
        s.test("Promise 9", "OUTSIDE;", "0 and 1", e ->
            Twins.range(e, "judge(_)", (x, n) -> x.judge(n), 0, 1, OUTSIDE));
        s.test("Promise 9", "NO: there is a FAULT.", "a fault, though an act ahead of it can not be", e -> {
            ToupeeWind x = new ToupeeWind();
            for (String text : new String[] {"A", "~", "A<A", "A<~", ".".repeat(59) + "A"}) {
                Expect.text(x, text);
                e.due("judge(0) of " + text, x.judge(0), NO);
                e.due("judge(1) of " + text, x.judge(1), NO);
            }
        });
        s.test("Promise 9", "JUDGED: the ACT (what = 0), why (1); NONE.", "it changes nothing", e -> {
            Twins.unchanged(e, Twins::impossible, "judge(0)", x -> x.judge(0), 1);
            Twins.unchanged(e, Twins::impossible, "judge(1)", x -> x.judge(1), 7);
            Twins.unchanged(e, Twins::lively, "judge(0)", x -> x.judge(0), NONE);
        });
    }

    private static void donePromise(Sentences s) {
        s.test("Promise 10", "DAYS on the PAD are DONE (it is empty then): ACTS.", "none, some, sixty", e -> {
            ToupeeWind x = new ToupeeWind();
            e.due("nothing said: done()", x.done(), 0);
            Expect.text(x, "A>A&B!.");
            e.due("acts, not signs: done()", x.done(), 4);
            e.due("it is empty: told(0)", x.told(0), 0);
            e.due("it is empty: done()", x.done(), 0);
            Expect.text(x, ".".repeat(60));
            e.due("sixty: done()", x.done(), 60);
            e.due("it is empty: told(0)", x.told(0), 0);
            e.due("it is empty: fault()", x.fault(), NONE);
        });
        s.test("Promise 10", "NO: there is a FAULT, or an ACT that can not be.", "the first or the last act; the pad stays", e -> {
            ToupeeWind x = new ToupeeWind();
            for (String text : new String[] {"A", "A>~", "A<", ".A>A<A<"}) {
                Expect.text(x, text);
                e.due("done() of " + text, x.done(), NO);
                e.due("told(0)", x.told(0), text.length());
                e.due("told(4)", x.told(4), 0);
                e.due("told(10)", x.told(10), 0);
                e.due("told(7)", x.told(7), 0);
            }
        });
    }

    private static void behindPromise(Sentences s) {
        s.test("Promise 11", "BEHIND: the CELL (what = 0), HOURS (1), OWES (2), HOLDS (3; NONE), where the TOUPEE lies (4; NONE),"
            + " GATES (5), FLAGS (6), SHEETS (7).", "each of two walkers, of whom one holds the other", e -> {
            ToupeeWind x = new ToupeeWind();
            x.walker(5, 4, 5, 8);
            x.purse(5, 9, 8, 7);
            x.likes(1, 2, 3);
            x.wind(3, 0, 1);
            Expect.text(x, "FgFfFsF4F&E.F<");
            int[] holder = {3, 21, 2, 4, 5, 8, 7, 6};
            int[] held = {3, 0, 0, NONE, 5, 2, 2, 2};
            for (int what = 0; what < 8; what++) {
                e.due("behind(5, " + what + ")", x.behind(5, what), holder[what]);
                e.due("behind(4, " + what + ")", x.behind(4, what), held[what]);
            }
            e.due("F at peace", Expect.text(x, "FgFfFsF1F&E.").behind(5, 4), NONE);
            e.due("E held by him", x.behind(4, 4), NONE);
        });
        s.test("Promise 11", "UNKNOWN;", "walkers 0 to 5", e ->
            Twins.range(e, "behind(_, 0)", (x, n) -> x.behind(n, 0), 0, 5, UNKNOWN));
        s.test("Promise 11", "OUTSIDE;", "0 to 7", e ->
            Twins.range(e, "behind(4, _)", (x, n) -> x.behind(4, n), 0, 7, OUTSIDE));
        s.test("Promise 11", "NO, as of done().", "a fault, an act that can not be", e -> {
            ToupeeWind x = new ToupeeWind();
            for (String text : new String[] {"A", "A>~", "A<", ".A>A<A<"}) {
                Expect.text(x, text);
                for (int what = 0; what < 8; what++) {
                    e.due("behind(0, " + what + ") of " + text, x.behind(0, what), NO);
                }
            }
        });
    }

    private static void thenPromise(Sentences s) {
        s.test("Promise 12", "BEHIND: the CELL (what = 0), WAY (1), FORCE (2), the hour (3), the day (4), HUSHED (5), how many (6),"
            + " the ACT (7; NONE), who (8; NONE).", "each", e -> {
            ToupeeWind x = new ToupeeWind();
            x.wind(9, 0, 1);
            x.walker(0, 11, 2, 0);
            x.walker(5, 11, 0, 0);
            Expect.text(x, "A0!" + ".........");
            // Eighteen times from 9: 11 and 0 are both behind it.
            int[] due = {5, 0, 2, 1, 1, 1, 5, 2, 5};
            for (int what = 0; what < 9; what++) {
                e.due("then(" + what + ")", x.then(what), due[what]);
            }
            Expect.text(x, "");
            e.due("nothing said: then(7)", x.then(7), NONE);
            e.due("nothing said: then(8)", x.then(8), NONE);
        });
        s.test("Promise 12", "OUTSIDE;", "0 to 8", e ->
            Twins.range(e, "then(_)", (x, n) -> x.then(n), 0, 8, OUTSIDE));
        s.test("Promise 12", "NO, likewise.", "a fault, an act that can not be", e -> {
            ToupeeWind x = new ToupeeWind();
            for (String text : new String[] {"A", "A>~", "A<", ".A>A<A<"}) {
                Expect.text(x, text);
                for (int what = 0; what < 9; what++) {
                    e.due("then(" + what + ") of " + text, x.then(what), NO);
                }
            }
        });
    }
}
