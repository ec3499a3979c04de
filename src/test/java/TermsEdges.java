/** How long an object lasts, and what the document says of all calls: refusals, fractions, sets. */
final class TermsEdges {
    private static final int UNKNOWN = -1;
    private static final int OUTSIDE = -2;
    private static final int STATE = -3;
    private static final int FULL = -4;
    private static final int NO = -5;
    private static final long LOST = -1000000000000000000L;

    private TermsEdges() {
    }

    static void add(Sentences s) {
        lastCalls(s);
        kinds(s);
        order(s);
        nothingChanges(s);
        fractions(s);
        sets(s);
    }

    private static void lastCalls(Sentences s) {
        String words = "An object is used for at most 512 calls after it has been made";
        s.test("What it is, promises 2, 6, 10, 23 to 25", words, "the 512th call still answers as the first did", e -> {
            ToupeeWind x = new ToupeeWind();
            ToupeeWind y = new ToupeeWind();
            for (int call = 1; call <= 512; call++) {
                e.due("call " + call + ": year(0, 9, 2)", x.year(0, 9, 2), 2);
                e.due("call " + call + ": walker", y.walker(5, call % 12, call % 256, call % 10),
                    call == 1 ? 5000 : 1000 * ((call - 1) % 12) + (call - 1) % 10);
            }
        });
        s.test("What it is, promises 2, 6, 10, 23 to 25", words, "all 512 write, keep and restore", e -> {
            ToupeeWind x = new ToupeeWind();
            for (int call = 1; call <= 512; call++) {
                switch (call % 4) {
                    case 1: e.due("call " + call + ": say(46)", x.say(46), 1); break;
                    case 2: e.due("call " + call + ": image(1)", x.image(1), 1); break;
                    case 3: e.due("call " + call + ": done()", x.done(), 1); break;
                    default: e.due("call " + call + ": restore(1)", x.restore(1), 1); break;
                }
            }
        });
    }

    private static void kinds(Sentences s) {
        s.test("Terms, promises 2 to 26", "UNKNOWN -1 (there is no such WALKER, CELL, by number)", "the number", e ->
            e.due("UNKNOWN", ToupeeWind.UNKNOWN, UNKNOWN));
        s.test("Terms, promises 2 to 26", "OUTSIDE -2 (another number is not as told)", "the number", e ->
            e.due("OUTSIDE", ToupeeWind.OUTSIDE, OUTSIDE));
        s.test("Terms, promises 2 to 26", "NO -5 (as told), STATE -3 (as told), FULL -4.", "the numbers", e -> {
            e.due("NO", ToupeeWind.NO, NO);
            e.due("STATE", ToupeeWind.STATE, STATE);
            e.due("FULL", ToupeeWind.FULL, FULL);
        });
    }

    private static void order(Sentences s) {
        String words = "Calls that are refused answer, the first of these that fits:";
        s.test("Terms, promises 2 to 26", words, "UNKNOWN comes ahead of OUTSIDE", e -> {
            ToupeeWind x = new ToupeeWind();
            e.due("walker(6, 0, 256, 0)", x.walker(6, 0, 256, 0), UNKNOWN);
            e.due("walker(0, 12, 0, 10)", x.walker(0, 12, 0, 10), UNKNOWN);
            e.due("walker(-1, -1, -1, -1)", x.walker(-1, -1, -1, -1), UNKNOWN);
            e.due("purse(6, 10, 0, 0)", x.purse(6, 10, 0, 0), UNKNOWN);
            e.due("purse(-1, 0, 0, -1)", x.purse(-1, 0, 0, -1), UNKNOWN);
            e.due("wind(12, 2, 1)", x.wind(12, 2, 1), UNKNOWN);
            e.due("wind(-1, 0, 0)", x.wind(-1, 0, 0), UNKNOWN);
            e.due("behind(6, 8)", x.behind(6, 8), UNKNOWN);
            e.due("pass(12, 0, 2)", x.pass(12, 0, 2), UNKNOWN);
            e.due("pass(0, 12, -1)", x.pass(0, 12, -1), UNKNOWN);
            e.due("paid(6, 2)", x.paid(6, 2), UNKNOWN);
            e.due("gale(12, 2, 2)", x.gale(12, 2, 2), LOST + UNKNOWN);
            e.due("gale(-1, 0, -1)", x.gale(-1, 0, -1), LOST + UNKNOWN);
        });
        s.test("Terms, promises 2 to 26", words, "UNKNOWN and OUTSIDE come ahead of NO", e -> {
            for (ToupeeWind x : new ToupeeWind[] {Twins.faulty(), Twins.impossible()}) {
                e.due("behind(6, 0)", x.behind(6, 0), UNKNOWN);
                e.due("behind(-1, 8)", x.behind(-1, 8), UNKNOWN);
                e.due("behind(0, 8)", x.behind(0, 8), OUTSIDE);
                e.due("behind(5, -1)", x.behind(5, -1), OUTSIDE);
                e.due("then(9)", x.then(9), OUTSIDE);
                e.due("then(-1)", x.then(-1), OUTSIDE);
                e.due("judge(2)", x.judge(2), OUTSIDE);
                e.due("judge(-1)", x.judge(-1), OUTSIDE);
            }
        });
        s.test("Terms, promises 2 to 26", words, "OUTSIDE comes ahead of STATE", e -> {
            ToupeeWind x = new ToupeeWind();
            e.due("restore(2)", x.restore(2), OUTSIDE);
            e.due("restore(-1)", x.restore(-1), OUTSIDE);
        });
        s.test("Terms, promises 2 to 26", words, "OUTSIDE comes ahead of FULL", e -> {
            ToupeeWind x = Twins.full();
            e.due("say(32)", x.say(32), OUTSIDE);
            e.due("say(127)", x.say(127), OUTSIDE);
            e.due("seen(0, 0, 0, 0, true)", x.seen(0, 0, 0, 0, true), OUTSIDE);
            e.due("seen(1, 0, 0, 4, false)", x.seen(1, 0, 0, 4, false), OUTSIDE);
        });
    }

    private static void nothingChanges(Sentences s) {
        String words = "They change nothing.";
        s.test("Terms, promises 2 to 26", words, "refused by two numbers at once", e -> {
            Twins.unchanged(e, Twins::lively, "walker(6, 12, 256, 10)", x -> x.walker(6, 12, 256, 10), UNKNOWN);
            Twins.unchanged(e, Twins::lively, "walker(0, 0, 256, 1)", x -> x.walker(0, 0, 256, 1), OUTSIDE);
            Twins.unchanged(e, Twins::lively, "walker(0, 0, 1, 10)", x -> x.walker(0, 0, 1, 10), OUTSIDE);
            Twins.unchanged(e, Twins::lively, "purse(0, 0, 0, 10)", x -> x.purse(0, 0, 0, 10), OUTSIDE);
            Twins.unchanged(e, Twins::lively, "likes(0, 0, 4)", x -> x.likes(0, 0, 4), OUTSIDE);
            Twins.unchanged(e, Twins::lively, "wind(0, 0, 10)", x -> x.wind(0, 0, 10), OUTSIDE);
        });
        s.test("Terms, promises 2 to 26", words, "refused by NO", e -> {
            Twins.Maker[] makers = {Twins::faulty, Twins::impossible};
            for (Twins.Maker maker : makers) {
                Twins.unchanged(e, maker, "done()", x -> x.done(), NO);
                Twins.unchanged(e, maker, "behind(4, 0)", x -> x.behind(4, 0), NO);
                Twins.unchanged(e, maker, "then(6)", x -> x.then(6), NO);
            }
            Twins.unchanged(e, Twins::faulty, "judge(0)", x -> x.judge(0), NO);
            Twins.unchanged(e, Twins::faulty, "judge(1)", x -> x.judge(1), NO);
        });
        s.test("Terms, promises 2 to 26", words, "refused by STATE", e ->
            Twins.unchanged(e, Twins::lively, "restore(1)", x -> x.restore(1), STATE));
        s.test("Terms, promises 2 to 26", words, "refused by FULL", e -> {
            Twins.unchanged(e, Twins::full, "say(46)", x -> x.say(46), FULL);
            Twins.unchanged(e, Twins::full, "seen(1, 0, 0, 0, true)", x -> x.seen(1, 0, 0, 0, true), FULL);
        });
    }

    private static void fractions(Sentences s) {
        String words = "Fractions are told in lowest terms by part: 0 the upper, 1 the lower number;";
        s.test("Terms, promise 22", words, "45 of 216 are 5 of 24, 71 of 216 stay", e -> {
            ToupeeWind x = new ToupeeWind();
            e.due("gale(0, 0, 0)", x.gale(0, 0, 0), 5);
            e.due("gale(0, 0, 1)", x.gale(0, 0, 1), 24);
            e.due("gale(1, 0, 0)", x.gale(1, 0, 0), 71);
            e.due("gale(1, 0, 1)", x.gale(1, 0, 1), 216);
        });
        s.test("Terms, promise 22", "refused with LOST and the refusal.", "both refusals, added", e -> {
            ToupeeWind x = new ToupeeWind();
            e.due("LOST", ToupeeWind.LOST, LOST);
            e.due("gale(12, 0, 0)", x.gale(12, 0, 0), -1000000000000000001L);
            e.due("gale(11, 0, 2)", x.gale(11, 0, 2), -1000000000000000002L);
        });
    }

    private static void sets(Sentences s) {
        s.test("Terms, promise 26", "Sets are bits.", "nobody, the first, the last, all", e -> {
            ToupeeWind x = new ToupeeWind();
            e.due("nobody is hushed: told(6)", x.told(6), 0);
            x.walker(0, 0, 1, 0);
            e.due("A is: told(6)", x.told(6), 1);
            x.walker(0, 0, 0, 0);
            x.walker(5, 0, 1, 0);
            e.due("F is: told(6)", x.told(6), 32);
            for (int walker = 0; walker < 6; walker++) {
                x.walker(walker, 0, 1, 0);
            }
            e.due("all are: told(6)", x.told(6), 63);
        });
    }
}
