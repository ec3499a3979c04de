/** Section 1, on: what acts do, what an hour does, and why an act can not be. */
final class ActsEdges {
    private static final int NONE = -6;

    private ActsEdges() {
    }

    static void add(Sentences s) {
        deeds(s);
        payments(s);
        hours(s);
        theWindGoes(s);
        losses(s);
        whereItLies(s);
        heldOnes(s);
        reasonsTwoToFive(s);
        reasonsSixToEight(s);
        reasonNine(s);
    }

    private static void judged(Expect e, ToupeeWind x, String text, int act, int why) {
        Expect.text(x, text);
        e.due("judge(0) of " + text, x.judge(0), act);
        e.due("judge(1) of " + text, x.judge(1), why);
    }

    private static void deeds(Sentences s) {
        String go = "> or < (he goes to the CELL above, below, and whom he HOLDS with him),";
        s.test("Section 1, promise 11", go, "both to the last cell, both to the first; who is not held stays", e -> {
            ToupeeWind x = new ToupeeWind();
            x.walker(0, 10, 0, 0);
            x.walker(1, 10, 0, 0);
            x.walker(2, 10, 0, 0);
            Expect.text(x, "A&BA>");
            e.due("A", x.behind(0, 0), 11);
            e.due("B", x.behind(1, 0), 11);
            e.due("C", x.behind(2, 0), 10);
            x.walker(3, 1, 0, 0);
            x.walker(4, 1, 0, 0);
            x.walker(5, 1, 0, 0);
            Expect.text(x, "F&DF<");
            e.due("F", x.behind(5, 0), 0);
            e.due("D", x.behind(3, 0), 0);
            e.due("E", x.behind(4, 0), 1);
        });
        String state = "a digit 0 to 7 (he has STATED that hour, or, if he had, has no more),";
        s.test("Section 1, promise 11", state, "stated, stated twice, stated before; the others stay", e -> {
            ToupeeWind x = new ToupeeWind();
            for (int hour = 0; hour < 8; hour++) {
                String act = "C" + hour;
                x.walker(2, 2, 0, 0);
                e.due(act, Expect.text(x, act).behind(2, 1), 1 << hour);
                e.due(act + " twice", Expect.text(x, act + act).behind(2, 1), 0);
                x.walker(2, 2, 255, 0);
                e.due(act + " of all", Expect.text(x, act).behind(2, 1), 255 - (1 << hour));
            }
        });
        s.test("Section 1, promise 11", "^ (his TOUPEE is ON),", "it was off; another one's stays off", e -> {
            ToupeeWind x = new ToupeeWind();
            x.walker(2, 1, 0, 0);
            Expect.text(x, ".B>B^");
            e.due("B's", x.behind(1, 4), NONE);
            e.due("C's", x.behind(2, 4), 2);
        });
        s.test("Section 1, promise 11", "& and a WALKER's letter (he HOLDS that one), or | (he HOLDS nobody);",
            "the first, the last, nobody", e -> {
            ToupeeWind x = new ToupeeWind();
            x.walker(5, 0, 0, 0);
            e.due("A holds F", Expect.text(x, "A&F").behind(0, 3), 5);
            e.due("F holds nobody", x.behind(5, 3), NONE);
            e.due("F holds A", Expect.text(x, "F&A").behind(5, 3), 0);
            e.due("A holds nobody", x.behind(0, 3), NONE);
            e.due("nobody", Expect.text(x, "A&FA|").behind(0, 3), NONE);
            e.due("again", Expect.text(x, "A&FA|A&F").behind(0, 3), 5);
        });
        s.test("Section 1, promise 12", "! (a gale: the FORCE is 1 more);", "from 1 to 9", e -> {
            ToupeeWind x = new ToupeeWind();
            for (int gales = 0; gales <= 8; gales++) {
                e.due(gales + " gales", Expect.text(x, "!".repeat(gales)).then(2), 1 + gales);
            }
            e.due("it is no later", x.then(3), 0);
            e.due("it did not blow", x.then(0), 0);
        });
    }

    private static void payments(Sentences s) {
        String pay = "g, f, or s (he pays a GATE, a FLAG, a SHEET: he has one fewer, and OWES as much less as"
            + " THE WIND LIKES it by, 0 at least),";
        s.test("Section 1, promise 11", pay, "each by its own liking, of its own goods", e -> {
            ToupeeWind x = new ToupeeWind();
            x.likes(1, 2, 3);
            x.walker(0, 0, 0, 9);
            for (int kind = 0; kind < 3; kind++) {
                Expect.text(x, "A" + "gfs".charAt(kind));
                e.due("owed, kind " + kind, x.behind(0, 2), 8 - kind);
                for (int other = 0; other < 3; other++) {
                    e.due("left of kind " + other, x.behind(0, 5 + other), other == kind ? 1 : 2);
                }
                e.due("another one's", x.behind(1, 5 + kind), 2);
            }
        });
        s.test("Section 1, promise 11", pay, "0 at least", e -> {
            ToupeeWind x = new ToupeeWind();
            x.likes(3, 3, 3);
            for (int owes = 1; owes <= 4; owes++) {
                x.walker(0, 0, 0, owes);
                e.due("3 of " + owes, Expect.text(x, "Af").behind(0, 2), owes < 3 ? 0 : owes - 3);
            }
        });
        s.test("Section 1, promise 11", pay, "what it likes by 0 is paid for nothing", e -> {
            ToupeeWind x = new ToupeeWind();
            x.likes(0, 0, 0);
            x.walker(0, 0, 0, 9);
            Expect.text(x, "AsAs");
            e.due("owed", x.behind(0, 2), 9);
            e.due("sheets", x.behind(0, 7), 0);
        });
        s.test("Section 1, promise 11", pay, "the last one of nine", e -> {
            ToupeeWind x = new ToupeeWind();
            x.purse(3, 9, 9, 9);
            x.walker(3, 3, 0, 9);
            Expect.text(x, "Dg".repeat(9));
            e.due("owed", x.behind(3, 2), 0);
            e.due("gates", x.behind(3, 5), 0);
        });
    }

    private static void hours(Sentences s) {
        String next = "An hour: it is the next one (0 of the next day behind 7:";
        s.test("Section 1, promises 11, 12", next, "each hour of two days", e -> {
            ToupeeWind x = new ToupeeWind();
            for (int hour = 0; hour < 17; hour++) {
                Expect.text(x, ".".repeat(hour));
                e.due("the hour behind " + hour, x.then(3), hour % 8);
                e.due("the day behind " + hour, x.then(4), hour / 8);
            }
        });
        String owe = "then each OWES more by half of how many HOURS he has STATED, cut, 9 at most).";
        s.test("Section 1, promises 11, 12", owe, "none to eight hours stated, cut", e -> {
            ToupeeWind x = new ToupeeWind();
            Expect.text(x, ".......").done();
            Expect.text(x, ".");
            for (int stated = 0; stated <= 8; stated++) {
                x.walker(stated % 6, 0, 255 >> 8 - stated, 0);
                e.due(stated + " stated", x.behind(stated % 6, 2), stated / 2);
            }
        });
        s.test("Section 1, promises 11, 12", owe, "9 at most", e -> {
            ToupeeWind x = new ToupeeWind();
            Expect.text(x, ".......").done();
            Expect.text(x, ".");
            for (int owes = 0; owes <= 9; owes++) {
                x.walker(1, 0, 255, owes);
                e.due(owes + " and 4", x.behind(1, 2), owes <= 5 ? owes + 4 : 9);
            }
        });
        s.test("Section 1, promises 11, 12", owe, "each of them, behind hour 7 alone", e -> {
            ToupeeWind x = new ToupeeWind();
            for (int walker = 0; walker < 6; walker++) {
                x.walker(walker, walker, 1 << walker | 1 << 7, 1);
            }
            Expect.text(x, ".......");
            for (int walker = 0; walker < 6; walker++) {
                e.due("behind seven hours", x.behind(walker, 2), 1);
            }
            Expect.text(x, "........");
            for (int walker = 0; walker < 6; walker++) {
                e.due("behind eight hours", x.behind(walker, 2), 2);
            }
            Expect.text(x, ".".repeat(15));
            e.due("behind fifteen hours", x.behind(5, 2), 2);
            Expect.text(x, ".".repeat(16));
            e.due("behind sixteen hours", x.behind(5, 2), 3);
        });
        s.test("Section 1, promises 11, 12", owe, "ahead of the wind: who owes 4 by it is not hushed in that hour", e -> {
            ToupeeWind x = new ToupeeWind();
            Expect.text(x, ".......").done();
            Expect.text(x, ".");
            x.wind(5, 0, 1);
            x.walker(0, 6, 3, 2);
            e.due("owing 3 by then, he keeps it", x.behind(0, 4), NONE);
            x.walker(0, 6, 3, 3);
            e.due("owing 4 by then, he has it off", x.behind(0, 4), 7);
        });
        s.test("Section 1, promises 11, 12", next, "it is the next hour ahead of the wind", e -> {
            ToupeeWind x = Expect.text(new ToupeeWind(), ".");
            x.walker(1, 1, 1, 0);
            e.due("stated hour 0: he has it off", x.behind(1, 4), 2);
            x.walker(1, 1, 2, 0);
            e.due("stated hour 1: he keeps it", x.behind(1, 4), NONE);
            Expect.text(x, ".......").done();
            x.wind(0, 0, 1);
            Expect.text(x, ".");
            x.walker(1, 1, 128, 0);
            e.due("stated hour 7: he has it off", x.behind(1, 4), 2);
            x.walker(1, 1, 1, 0);
            e.due("stated hour 0 of the next day: he keeps it", x.behind(1, 4), NONE);
        });
    }

    private static void theWindGoes(Sentences s) {
        String goes = "Then THE WIND goes FORCE times to the next CELL on its WAY";
        s.test("Section 1, promise 12", goes, "once to nine times, up and down", e -> {
            ToupeeWind x = Expect.text(new ToupeeWind(), ".");
            for (int force = 1; force <= 9; force++) {
                x.wind(0, 0, force);
                e.due("up from 0 by " + force, x.then(0), force);
                e.due("the way", x.then(1), 0);
                x.wind(11, 1, force);
                e.due("down from 11 by " + force, x.then(0), 11 - force);
                e.due("the way", x.then(1), 1);
            }
        });
        String turns = "(from the last one it turns, and goes to the next one the other WAY);";
        s.test("Section 1, promise 12", turns, "on the last one it has not turned yet", e -> {
            ToupeeWind x = Expect.text(new ToupeeWind(), ".");
            x.wind(10, 0, 1);
            e.due("up to 11", x.then(0), 11);
            e.due("the way", x.then(1), 0);
            x.wind(1, 1, 1);
            e.due("down to 0", x.then(0), 0);
            e.due("the way", x.then(1), 1);
        });
        s.test("Section 1, promise 12", turns, "from the last one", e -> {
            ToupeeWind x = Expect.text(new ToupeeWind(), ".");
            x.wind(11, 0, 1);
            e.due("from 11, up", x.then(0), 10);
            e.due("the way", x.then(1), 1);
            x.wind(0, 1, 1);
            e.due("from 0, down", x.then(0), 1);
            e.due("the way", x.then(1), 0);
        });
        s.test("Section 1, promise 12", turns, "within an hour", e -> {
            ToupeeWind x = Expect.text(new ToupeeWind(), ".");
            x.wind(8, 0, 9);
            e.due("from 8, up by 9", x.then(0), 5);
            e.due("the way", x.then(1), 1);
            x.wind(3, 1, 9);
            e.due("from 3, down by 9", x.then(0), 6);
            e.due("the way", x.then(1), 0);
        });
        s.test("Section 1, promise 12", turns, "there and back in 22 hours", e -> {
            ToupeeWind x = new ToupeeWind();
            for (int hour = 1; hour <= 22; hour++) {
                Expect.text(x, ".").done();
                e.due("the cell behind " + hour, x.told(1), hour <= 11 ? hour : 22 - hour);
                e.due("the way behind " + hour, x.told(2), hour <= 11 ? 0 : 1);
            }
            Expect.text(x, ".").done();
            e.due("the cell behind 23", x.told(1), 1);
            e.due("the way behind 23", x.told(2), 0);
        });
    }

    private static void losses(Sentences s) {
        String words = "each time it comes to a CELL, each one there, by number, whose TOUPEE is ON, who is not HUSHED,"
            + " has it OFF:";
        s.test("Section 1, promises 11, 12", words, "it does not come to the cell that it goes from", e -> {
            ToupeeWind x = Expect.text(new ToupeeWind(), ".");
            e.due("A is there", x.behind(0, 4), NONE);
            e.due("B is where it comes", x.behind(1, 4), 2);
            e.due("C is beyond", x.behind(2, 4), NONE);
            x.wind(0, 0, 2);
            e.due("C is where it comes, too", x.behind(2, 4), 3);
            e.due("D is beyond", x.behind(3, 4), NONE);
        });
        s.test("Section 1, promises 11, 12", words, "it comes to a cell again", e -> {
            ToupeeWind x = Expect.text(new ToupeeWind(), ".");
            x.wind(11, 0, 2);
            x.walker(0, 11, 0, 0);
            e.due("not from 11 by 2", x.behind(0, 4), NONE);
            x.walker(0, 10, 0, 0);
            x.wind(10, 0, 2);
            e.due("from 10 by 2, back on 10", x.behind(0, 4), 9);
        });
        s.test("Section 1, promises 11, 12", words, "all six on one cell, the first by number", e -> {
            ToupeeWind x = Expect.text(new ToupeeWind(), ".");
            for (int walker = 5; walker >= 0; walker--) {
                x.walker(walker, 1, 0, 0);
            }
            e.due("how many", x.then(6), 6);
            e.due("who was first", x.then(8), 0);
            x.walker(0, 1, 2, 0);
            x.walker(1, 7, 0, 0);
            e.due("how many but A and B", x.then(6), 4);
            e.due("who was first", x.then(8), 2);
        });
        s.test("Section 1, promises 11, 12", words, "the first cell comes ahead of the first number", e -> {
            ToupeeWind x = Expect.text(new ToupeeWind(), ".");
            x.wind(3, 0, 3);
            x.walker(0, 6, 0, 0);
            x.walker(5, 4, 0, 0);
            x.walker(4, 5, 0, 0);
            e.due("F is on 4, E on 5, A on 6", x.then(8), 5);
            x.wind(7, 1, 3);
            e.due("the other way", x.then(8), 0);
        });
        s.test("Section 1, promises 11, 12", words, "one whose is off has none to lose", e -> {
            ToupeeWind x = new ToupeeWind();
            x.wind(10, 0, 3);
            x.walker(0, 10, 0, 0);
            x.walker(1, 11, 0, 0);
            Expect.text(x, ".");
            e.due("11, 10, 9: how many", x.then(6), 2);
            e.due("B's lies on 11", x.behind(1, 4), 11);
            e.due("A's lies on 9", x.behind(0, 4), 9);
            x.done();
            x.wind(9, 0, 9);
            Expect.text(x, ".");
            e.due("again: how many, E and F", x.then(6), 2);
            e.due("again: who", x.then(8), 5);
            e.due("B's lies where it lay", x.behind(1, 4), 11);
            e.due("A's lies where it lay", x.behind(0, 4), 9);
        });
        s.test("Section 1, promises 11, 12", words, "who is hushed, or held by one at peace, keeps it", e -> {
            ToupeeWind x = new ToupeeWind();
            x.walker(0, 1, 2, 3);
            x.walker(2, 1, 0, 9);
            Expect.text(x, "A&C.");
            e.due("A's", x.behind(0, 4), NONE);
            e.due("C's", x.behind(2, 4), NONE);
            e.due("B's", x.behind(1, 4), 2);
            Expect.text(x, "A&CA|.");
            e.due("let go, C's", x.behind(2, 4), 2);
        });
    }

    private static void whereItLies(Sentences s) {
        String words = "it lies on the next CELL on the WAY (from the last one: on that one).";
        s.test("Section 1, promise 11", words, "each cell, up", e -> {
            ToupeeWind x = Expect.text(new ToupeeWind(), ".");
            for (int cell = 1; cell <= 11; cell++) {
                x.wind(cell - 1, 0, 1);
                x.walker(3, cell, 0, 0);
                e.due("from " + cell, x.behind(3, 4), cell == 11 ? 11 : cell + 1);
            }
        });
        s.test("Section 1, promise 11", words, "each cell, down", e -> {
            ToupeeWind x = Expect.text(new ToupeeWind(), ".");
            for (int cell = 0; cell <= 10; cell++) {
                x.wind(cell + 1, 1, 1);
                x.walker(3, cell, 0, 0);
                e.due("from " + cell, x.behind(3, 4), cell == 0 ? 0 : cell - 1);
            }
        });
        s.test("Section 1, promise 11", words, "where it has turned", e -> {
            ToupeeWind x = Expect.text(new ToupeeWind(), ".");
            x.wind(11, 0, 1);
            x.walker(3, 10, 0, 0);
            e.due("from 10, down", x.behind(3, 4), 9);
            x.wind(0, 1, 1);
            x.walker(3, 1, 0, 0);
            e.due("from 1, up", x.behind(3, 4), 2);
            x.wind(9, 0, 5);
            x.walker(3, 10, 0, 0);
            e.due("from 10, the first time that it came", x.behind(3, 4), 11);
        });
    }

    private static ToupeeWind heldOnCell(int cell) {
        ToupeeWind x = new ToupeeWind();
        for (int walker = 0; walker < 3; walker++) {
            x.walker(walker, cell, 0, 0);
        }
        return x;
    }

    private static void heldOnes(Sentences s) {
        String words = "An ACT can not be for the least of these reasons: 1 he is HELD (>, <, ^, &);";
        s.test("Section 1, promise 9", words, "each of the four, that could be else", e -> {
            ToupeeWind x = heldOnCell(5);
            judged(e, x, "A&BB>", 1, 1);
            judged(e, x, "A&BB<", 1, 1);
            judged(e, x, "A&BB&C", 1, 1);
            judged(e, x, "A&BA|B>B<B&C", NONE, NONE);
            x = heldOnCell(11);
            x.wind(10, 0, 1);
            judged(e, x, ".A&BB^", 2, 1);
            judged(e, x, ".A&BA|B^", NONE, NONE);
        });
        s.test("Section 1, promise 9", words, "1 comes ahead of 2, of 6, of 7", e -> {
            judged(e, heldOnCell(11), "A&BB>", 1, 1);
            judged(e, heldOnCell(0), "A&BB<", 1, 1);
            judged(e, heldOnCell(5), "A&BB^", 1, 1);
            judged(e, heldOnCell(5), "A&BB&B", 1, 1);
            judged(e, heldOnCell(5), "A&BB&A", 1, 1);
            judged(e, heldOnCell(5), "A&BB&F", 1, 1);
        });
        s.test("Section 1, promise 9", words, "a held one may state and pay; his letting go is no matter of 1", e -> {
            ToupeeWind x = heldOnCell(5);
            x.walker(1, 5, 0, 3);
            judged(e, x, "A&BB0B7BgBfBs", NONE, NONE);
            judged(e, x, "A&BB|", 1, 8);
        });
        s.test("Section 1, promise 9", words, "he who holds is not held", e -> {
            ToupeeWind x = heldOnCell(5);
            judged(e, x, "A&BA>A<", NONE, NONE);
            x = heldOnCell(11);
            x.wind(10, 0, 1);
            judged(e, x, ".A&BA^", NONE, NONE);
        });
    }

    private static void reasonsTwoToFive(Sentences s) {
        s.test("Section 1, promise 9", "2 there is no such CELL (>, <);", "at both ends, alone and holding one", e -> {
            judged(e, heldOnCell(11), "A>", 0, 2);
            judged(e, heldOnCell(11), "A&BA>", 1, 2);
            judged(e, heldOnCell(10), "A>A>", 1, 2);
            judged(e, heldOnCell(0), "A<", 0, 2);
            judged(e, heldOnCell(0), "A&BA<", 1, 2);
            judged(e, heldOnCell(1), "A<A<", 1, 2);
        });
        s.test("Section 1, promise 9", "3 he OWES 4 or more (a digit);", "3, 4 and 9 owed, stated before or not", e -> {
            ToupeeWind x = new ToupeeWind();
            for (int owes = 0; owes <= 9; owes++) {
                x.walker(0, 0, 1, owes);
                judged(e, x, "A0", owes < 4 ? NONE : 0, owes < 4 ? NONE : 3);
                judged(e, x, "A7", owes < 4 ? NONE : 0, owes < 4 ? NONE : 3);
            }
            x.walker(0, 0, 1, 4);
            judged(e, x, "AgA0", NONE, NONE);
        });
        s.test("Section 1, promise 9", "4 he has none of these (g, f, s);", "none of one kind, and of a kind that is spent", e -> {
            ToupeeWind x = new ToupeeWind();
            x.walker(0, 0, 0, 9);
            for (int kind = 0; kind < 3; kind++) {
                x.purse(0, kind == 0 ? 0 : 1, kind == 1 ? 0 : 1, kind == 2 ? 0 : 1);
                for (int other = 0; other < 3; other++) {
                    String act = "A" + "gfs".charAt(other);
                    judged(e, x, act, other == kind ? 0 : NONE, other == kind ? 4 : NONE);
                    if (other != kind) {
                        judged(e, x, act + act, 1, 4);
                    }
                }
            }
        });
        s.test("Section 1, promise 9", "4 he has none of these (g, f, s);", "4 comes ahead of 5", e -> {
            ToupeeWind x = new ToupeeWind();
            x.purse(0, 0, 0, 0);
            judged(e, x, "Ag", 0, 4);
            judged(e, x, "Af", 0, 4);
            judged(e, x, "As", 0, 4);
        });
        s.test("Section 1, promise 9", "5 he OWES nothing (g, f, s);", "0 and 1 owed, and when all is paid", e -> {
            ToupeeWind x = new ToupeeWind();
            judged(e, x, "Ag", 0, 5);
            judged(e, x, "Af", 0, 5);
            judged(e, x, "As", 0, 5);
            x.walker(0, 0, 0, 1);
            judged(e, x, "AgAf", 1, 5);
            judged(e, x, "AfAs", 1, 5);
            judged(e, x, "AsAg", 1, 5);
        });
    }

    private static void reasonsSixToEight(Sentences s) {
        s.test("Section 1, promise 9", "6 his TOUPEE is ON, or lies on another CELL (^);", "on; one cell off; on his; beyond; on again", e -> {
            ToupeeWind x = new ToupeeWind();
            judged(e, x, "B^", 0, 6);
            judged(e, x, ".B^", 1, 6);
            judged(e, x, ".B>B^", NONE, NONE);
            judged(e, x, ".B>B>B^", 3, 6);
            judged(e, x, ".B>B^B^", 3, 6);
            x.wind(1, 1, 1);
            judged(e, x, ".A^A^", 2, 6);
        });
        String seven = "7 both are one, or on unlike CELLS, he HOLDS one already, or the other one is HELD, or HOLDS one (&);";
        s.test("Section 1, promise 9", seven, "both are one", e -> {
            judged(e, heldOnCell(5), "A&A", 0, 7);
            judged(e, heldOnCell(5), "B&B", 0, 7);
        });
        s.test("Section 1, promise 9", seven, "on unlike cells, one off, up and down", e -> {
            judged(e, heldOnCell(5), "A>A&B", 1, 7);
            judged(e, heldOnCell(5), "A<A&B", 1, 7);
            judged(e, heldOnCell(5), "A<A>A&B", NONE, NONE);
        });
        s.test("Section 1, promise 9", seven, "he holds one already, another one or the same", e -> {
            judged(e, heldOnCell(5), "A&BA&C", 1, 7);
            judged(e, heldOnCell(5), "A&BA|A&C", NONE, NONE);
        });
        s.test("Section 1, promise 9", seven, "the other one is held", e -> {
            judged(e, heldOnCell(5), "A&BC&B", 1, 7);
            judged(e, heldOnCell(5), "A&BA|C&B", NONE, NONE);
        });
        s.test("Section 1, promise 9", seven, "the other one holds one", e -> {
            judged(e, heldOnCell(5), "A&BC&A", 1, 7);
            judged(e, heldOnCell(5), "A&BA|C&A", NONE, NONE);
        });
        s.test("Section 1, promise 9", "8 he HOLDS nobody (|);", "at first, and behind letting go", e -> {
            judged(e, heldOnCell(5), "A|", 0, 8);
            judged(e, heldOnCell(5), "A&BA|", NONE, NONE);
            judged(e, heldOnCell(5), "A&BA|A|", 2, 8);
            judged(e, heldOnCell(5), "A&BC|", 1, 8);
        });
    }

    private static void reasonNine(Sentences s) {
        String words = "9 the FORCE is 9 (!), it is hour 7 of day 99 (.).";
        s.test("Section 1, promise 9", words, "the force is 8, is 9", e -> {
            ToupeeWind x = new ToupeeWind();
            x.wind(0, 0, 8);
            judged(e, x, "!", NONE, NONE);
            judged(e, x, "!!", 1, 9);
            x.wind(0, 0, 9);
            judged(e, x, "!", 0, 9);
            judged(e, x, ".", NONE, NONE);
        });
        // It takes more calls than an object is promised for; this one is not less careful behind them.
        s.test("Section 1, promise 9", words, "hour 6 and hour 7 of day 99, hour 7 of day 98", e -> {
            ToupeeWind x = new ToupeeWind();
            for (int n = 0; n < 15; n++) {
                Expect.text(x, ".".repeat(50)).done();
            }
            Expect.text(x, ".".repeat(41)).done();
            e.due("the hour", x.told(4), 7);
            e.due("the day", x.told(5), 98);
            judged(e, x, ".".repeat(8), NONE, NONE);
            judged(e, x, ".".repeat(9), 8, 9);
            Expect.text(x, ".".repeat(8)).done();
            e.due("the hour", x.told(4), 7);
            e.due("the day", x.told(5), 99);
            judged(e, x, "!", NONE, NONE);
            judged(e, x, ".", 0, 9);
            e.due("done()", x.done(), -5);
            e.due("the hour", x.told(4), 7);
            e.due("the day", x.told(5), 99);
        });
    }
}
