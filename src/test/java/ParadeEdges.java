/** Section 1 up to the faults of a text, and promises 1 to 8: the parade, its walkers, the wind, the pad. */
final class ParadeEdges {
    private static final int NONE = -6;
    private static final int UNKNOWN = -1;
    private static final int OUTSIDE = -2;
    private static final int FULL = -4;

    private ParadeEdges() {
    }

    static void add(Sentences s) {
        atFirst(s);
        peace(s);
        signs(s);
        faults(s);
        walker(s);
        purse(s);
        likes(s);
        wind(s);
        pad(s);
    }

    private static void atFirst(Sentences s) {
        s.test("Section 1, promises 2, 9, 11", "THE PARADE has CELLS 0 to 11, in a row.", "the first and the last one, and beyond", e -> {
            ToupeeWind x = new ToupeeWind();
            for (int cell = 0; cell < 11; cell++) {
                x.walker(0, cell, 0, 0);
                e.due("above " + cell, Expect.text(x, "A>").behind(0, 0), cell + 1);
                x.walker(0, cell + 1, 0, 0);
                e.due("below " + (cell + 1), Expect.text(x, "A<").behind(0, 0), cell);
            }
            e.due("above 11", Expect.text(x, "A>").judge(1), 2);
            x.walker(0, 0, 0, 0);
            e.due("below 0", Expect.text(x, "A<").judge(1), 2);
        });
        s.test("Section 1, promise 1", "THE WIND is on a CELL (0 at first), its WAY is up (to the next greater CELL; at first),"
            + " or down, its FORCE is 1 to 9 (1 at first).", "at first", e -> {
            ToupeeWind x = new ToupeeWind();
            e.due("told(1)", x.told(1), 0);
            e.due("told(2)", x.told(2), 0);
            e.due("told(3)", x.told(3), 1);
            e.due("up: behind an hour", Expect.text(x, ".").then(0), 1);
            x.wind(6, 1, 1);
            e.due("down: behind an hour", x.then(0), 5);
        });
        s.test("Section 1, promise 1", "It is hour 0 to 7 (0 at first) of day 0 to 99 (0 at first).", "at first", e -> {
            ToupeeWind x = new ToupeeWind();
            e.due("told(4)", x.told(4), 0);
            e.due("told(5)", x.told(5), 0);
        });
        s.test("Section 1, promise 1", "WALKERS 0 to 5 (A to F) are each on a CELL (their number, at first), have STATED some HOURS"
            + " 0 to 7 (none, at first), OWE 0 to 9 (0 at first), have GATES, FLAGS, SHEETS (0 to 9 of each;"
            + " 2 at first), a TOUPEE that is ON (at first), or OFF, and lies on a CELL; and one may HOLD another one"
            + " (none, at first).", "each of them, at first", e -> {
            ToupeeWind x = new ToupeeWind();
            int[] due = {0, 0, 0, NONE, NONE, 2, 2, 2};
            for (int walker = 0; walker < 6; walker++) {
                due[0] = walker;
                for (int what = 0; what < 8; what++) {
                    e.due("behind(" + walker + ", " + what + ")", x.behind(walker, what), due[what]);
                }
            }
        });
        s.test("Section 1, promise 11", "WALKERS 0 to 5 (A to F)", "each letter is its own walker's", e -> {
            for (int walker = 0; walker < 6; walker++) {
                ToupeeWind x = Expect.text(new ToupeeWind(), (char) ('A' + walker) + "3");
                for (int other = 0; other < 6; other++) {
                    e.due("hours of " + other, x.behind(other, 1), other == walker ? 8 : 0);
                }
            }
        });
        s.test("Section 1, promise 1", "THE WIND LIKES a GATE by 1, a FLAG by 1, a SHEET by 1 (each 0 to 3, as told).", "at first", e -> {
            ToupeeWind x = new ToupeeWind();
            x.walker(0, 0, 0, 3);
            e.due("a gate", Expect.text(x, "Ag").behind(0, 2), 2);
            e.due("a flag", Expect.text(x, "Af").behind(0, 2), 2);
            e.due("a sheet", Expect.text(x, "As").behind(0, 2), 2);
            e.due("likes(0, 0, 0)", x.likes(0, 0, 0), 111);
        });
        s.test("Promise 1", "All TOUPEES are ON.", "of a new object", e -> {
            ToupeeWind x = new ToupeeWind();
            e.due("told(7)", x.told(7), 0);
            for (int walker = 0; walker < 6; walker++) {
                e.due("told(" + (50 + walker) + ")", x.told(50 + walker), NONE);
                e.due("it can not be put on", Expect.text(x, (char) ('A' + walker) + "^").judge(1), 6);
            }
            e.due("fault() of nothing said", new ToupeeWind().fault(), NONE);
        });
    }

    private static void peace(Sentences s) {
        String words = "One is at peace, if he has STATED the hour that it is, and OWES fewer than 4.";
        s.test("Section 1, promises 12, 26", words, "each hour, and each but that one", e -> {
            for (int hour = 0; hour < 8; hour++) {
                ToupeeWind x = new ToupeeWind();
                Expect.text(x, ".".repeat(hour)).done();
                x.walker(2, 2, 1 << hour, 0);
                e.due("hour " + hour + " alone: told(6)", x.told(6), 4);
                x.walker(2, 2, 255 - (1 << hour), 0);
                e.due("all but hour " + hour + ": told(6)", x.told(6), 0);
            }
        });
        s.test("Section 1, promises 12, 26", words, "3 and 4 owed", e -> {
            ToupeeWind x = new ToupeeWind();
            for (int owes = 0; owes <= 9; owes++) {
                x.walker(0, 0, 1, owes);
                e.due("owing " + owes + ": told(6)", x.told(6), owes < 4 ? 1 : 0);
            }
        });
        String hushed = "One is HUSHED, if he is at peace, or is HELD by one who is.";
        s.test("Section 1, promises 12, 26", hushed, "whom one at peace holds, not whom another one holds", e -> {
            ToupeeWind x = new ToupeeWind();
            x.walker(0, 3, 1, 3);
            Expect.text(x, "A&D").done();
            e.due("A at peace holds D: told(6)", x.told(6), 9);
            e.due("A lets him go", Expect.text(x, "A|").then(5), 1);
            x.walker(0, 3, 1, 4);
            e.due("A owes 4", Expect.text(x, "A&D").then(5), 0);
            x.walker(0, 3, 2, 0);
            e.due("A has stated another hour", Expect.text(x, "A&D").then(5), 0);
        });
        s.test("Section 1, promises 12, 26", hushed, "one who holds one at peace is not", e -> {
            ToupeeWind x = new ToupeeWind();
            x.walker(0, 3, 0, 0);
            x.walker(3, 3, 1, 0);
            e.due("D at peace is held by A", Expect.text(x, "A&D").then(5), 8);
        });
    }

    private static void signs(Sentences s) {
        String words = "DAYS are a text on a PAD (60 SIGNS at most, codes 33 to 126) of ACTS:";
        s.test("Section 1, promise 8", words, "60 signs are taken and read, the 61st is not", e -> {
            ToupeeWind x = Expect.text(new ToupeeWind(), ".".repeat(59));
            e.due("the 60th", x.say('!'), 60);
            e.due("the 61st", x.say('!'), FULL);
            e.due("the hour", x.then(3), 3);
            e.due("the day", x.then(4), 7);
            e.due("the 60th sign is read", x.then(2), 2);
            e.due("done()", x.done(), 60);
        });
        s.test("Section 1, promise 8", words, "no signs are no acts", e -> {
            ToupeeWind x = new ToupeeWind();
            e.due("fault()", x.fault(), NONE);
            e.due("judge(0)", x.judge(0), NONE);
            e.due("done()", x.done(), 0);
        });
        s.test("Section 1, promise 8", "a WALKER's letter and:", "A and F, and their neighbours", e -> {
            ToupeeWind x = new ToupeeWind();
            e.due("A", Expect.text(x, "A5").fault(), NONE);
            e.due("F", Expect.text(x, "F5").fault(), NONE);
            for (String no : new String[] {"@5", "G5", "a5", "f5", "65"}) {
                e.due(no, Expect.text(x, no).fault(), 0);
            }
        });
        s.test("Section 1, promise 8", "a digit 0 to 7", "0 and 7, and their neighbours", e -> {
            ToupeeWind x = new ToupeeWind();
            for (int hour = 0; hour < 8; hour++) {
                e.due("A" + hour, Expect.text(x, "A" + hour).behind(0, 1), 1 << hour);
            }
            for (String no : new String[] {"A8", "A9", "A/", "A:"}) {
                e.due(no, Expect.text(x, no).fault(), 1);
            }
        });
        s.test("Section 1, promise 8", "g, f, or s", "each, and no sign beside them", e -> {
            ToupeeWind x = new ToupeeWind();
            for (char sign = 33; sign <= 126; sign++) {
                boolean deed = "><01234567gfs^|".indexOf(sign) >= 0;
                e.due("A" + sign, Expect.text(x, "A" + sign).fault(), deed ? NONE : sign == '&' ? 2 : 1);
                if (sign == 'O') {
                    x = new ToupeeWind();
                }
            }
        });
        s.test("Section 1, promise 8", "& and a WALKER's letter", "A and F, and their neighbours", e -> {
            ToupeeWind x = new ToupeeWind();
            e.due("C&A", Expect.text(x, "C&A").fault(), NONE);
            e.due("C&F", Expect.text(x, "C&F").fault(), NONE);
            for (String no : new String[] {"C&@", "C&G", "C&a", "C&0", "C&&", "C&.", "C&|"}) {
                e.due(no, Expect.text(x, no).fault(), 2);
            }
        });
        s.test("Section 1, promise 8", "! (a gale: the FORCE is 1 more); or . (an hour).", "they stand alone", e -> {
            ToupeeWind x = new ToupeeWind();
            for (char sign = 33; sign <= 126; sign++) {
                boolean act = sign == '!' || sign == '.';
                boolean letter = sign >= 'A' && sign <= 'F';
                e.due("" + sign, Expect.text(x, "" + sign).fault(), act ? NONE : letter ? 1 : 0);
                if (sign == 'O') {
                    x = new ToupeeWind();
                }
            }
        });
    }

    private static void faults(Sentences s) {
        String words = "THE FAULT: the place (from 0 on) of the first sign that can not stand there;";
        s.test("Section 1, promise 8", words, "the first place and the last one", e -> {
            ToupeeWind x = new ToupeeWind();
            e.due("at 0", Expect.text(x, ">A>").fault(), 0);
            e.due("at 59", Expect.text(x, ".".repeat(59) + "~").fault(), 59);
            e.due("at 59, behind a letter", Expect.text(x, ".".repeat(58) + "AA").fault(), 59);
            e.due("at 59, behind &", Expect.text(x, ".".repeat(57) + "A&&").fault(), 59);
        });
        s.test("Section 1, promise 8", words, "the first of two", e ->
            e.due("at 3", Expect.text(new ToupeeWind(), "A>BG~A&").fault(), 3));
        s.test("Section 1, promise 8", words, "it is no matter whether the act can be", e ->
            e.due("A<", Expect.text(new ToupeeWind(), "A<A|A&A").fault(), NONE));
        String more = "the number of signs, if more must come.";
        s.test("Section 1, promise 8", more, "one sign, two, sixty", e -> {
            ToupeeWind x = new ToupeeWind();
            e.due("A", Expect.text(x, "A").fault(), 1);
            e.due("A&", Expect.text(x, "A&").fault(), 2);
            e.due("59 hours and F", Expect.text(x, ".".repeat(59) + "F").fault(), 60);
            e.due("58 hours and F&", Expect.text(x, ".".repeat(58) + "F&").fault(), 60);
            e.due("57 hours and F&A", Expect.text(x, ".".repeat(57) + "F&A").fault(), NONE);
        });
        s.test("Promise 8", "THE FAULT; NONE.", "a fault, more to come, none, nothing said", e -> {
            ToupeeWind x = new ToupeeWind();
            e.due("nothing", x.fault(), NONE);
            e.due("A", Expect.text(x, "A").fault(), 1);
            e.due("AA", Expect.text(x, "AA").fault(), 1);
            e.due("A>", Expect.text(x, "A>").fault(), NONE);
            Twins.unchanged(e, Twins::lively, "fault()", y -> y.fault(), NONE);
            Twins.unchanged(e, Twins::faulty, "fault()", y -> y.fault(), 3);
            Twins.unchanged(e, Twins::impossible, "fault()", y -> y.fault(), NONE);
        });
    }

    private static void walker(Sentences s) {
        s.test("Promise 2", "CELL, HOURS, what a WALKER OWES;", "the least and the greatest of each, of each walker", e -> {
            ToupeeWind x = new ToupeeWind();
            for (int walker = 0; walker < 6; walker++) {
                x.walker(walker, 11, 255, 9);
                e.due("cell", x.told(10 + walker), 11);
                e.due("hours", x.told(20 + walker), 255);
                e.due("owed", x.told(30 + walker), 9);
                x.walker(walker, 0, 0, 0);
                e.due("cell", x.told(10 + walker), 0);
                e.due("hours", x.told(20 + walker), 0);
                e.due("owed", x.told(30 + walker), 0);
                e.due("the purse stays", x.told(60 + walker), 222);
            }
        });
        s.test("Promise 2", "he HOLDS nobody, nobody HOLDS him;", "the holder is placed, the held one is, another one is", e -> {
            for (int pair = 0; pair < 36; pair++) {
                int holder = pair / 6;
                int held = pair % 6;
                if (holder == held) {
                    continue;
                }
                String hold = (char) ('A' + holder) + "&" + (char) ('A' + held);
                String go = (char) ('A' + held) + ">";
                ToupeeWind x = new ToupeeWind();
                for (int placed = 0; placed < 6; placed++) {
                    x.walker(holder, 4, 0, 0);
                    x.walker(held, 4, 0, 0);
                    Expect.text(x, hold).done();
                    x.walker(placed, 4, 0, 0);
                    boolean ends = placed == holder || placed == held;
                    e.due(hold + ", " + placed + " is placed", x.told(40 + holder), ends ? NONE : held);
                    e.due(hold + ", " + placed + " is placed: " + go, Expect.text(x, go).judge(1), ends ? NONE : 1);
                    x.walker(holder, 4, 0, 0);
                }
            }
        });
        s.test("Promise 2", "his TOUPEE is ON:", "it was off; another one's stays off", e -> {
            ToupeeWind x = new ToupeeWind();
            x.wind(0, 0, 2);
            Expect.text(x, ".").done();
            e.due("told(7)", x.told(7), 6);
            x.walker(1, 1, 0, 0);
            e.due("told(7)", x.told(7), 4);
            e.due("told(51)", x.told(51), NONE);
            e.due("told(52)", x.told(52), 3);
        });
        s.test("Promise 2", "1000 times the CELL, and what he OWED, as they were.", "the least and the greatest", e -> {
            ToupeeWind x = new ToupeeWind();
            e.due("of F at first", x.walker(5, 11, 255, 9), 5000);
            e.due("the greatest", x.walker(5, 0, 255, 0), 11009);
            e.due("the least", x.walker(5, 0, 0, 0), 0);
        });
        s.test("Promise 2", "UNKNOWN: both;", "walkers 0 to 5, cells 0 to 11", e -> {
            Twins.range(e, "walker(_, 1, 1, 1)", (x, n) -> x.walker(n, 1, 1, 1), 0, 5, UNKNOWN);
            Twins.range(e, "walker(1, _, 1, 1)", (x, n) -> x.walker(1, n, 1, 1), 0, 11, UNKNOWN);
        });
        s.test("Promise 2", "OUTSIDE: HOURS 0 to 255, 0 to 9.", "both", e -> {
            Twins.range(e, "walker(1, 1, _, 1)", (x, n) -> x.walker(1, 1, n, 1), 0, 255, OUTSIDE);
            Twins.range(e, "walker(1, 1, 1, _)", (x, n) -> x.walker(1, 1, 1, n), 0, 9, OUTSIDE);
        });
    }

    private static void purse(Sentences s) {
        s.test("Promise 3", "GATES, FLAGS, SHEETS of a WALKER: 100 times, 10 times, and, as they were.",
            "the least and the greatest, of each walker", e -> {
            ToupeeWind x = new ToupeeWind();
            for (int walker = 0; walker < 6; walker++) {
                e.due("at first", x.purse(walker, 9, 0, 0), 222);
                e.due("gates", x.purse(walker, 0, 9, 0), 900);
                e.due("flags", x.purse(walker, 0, 0, 9), 90);
                e.due("sheets", x.purse(walker, 9, 9, 9), 9);
                e.due("all", x.purse(walker, 0, 0, 0), 999);
                e.due("none", x.purse(walker, 1, 2, 3), 0);
                e.due("now", x.told(60 + walker), 123);
            }
        });
        s.test("Promise 3", "UNKNOWN;", "walkers 0 to 5", e ->
            Twins.range(e, "purse(_, 1, 2, 3)", (x, n) -> x.purse(n, 1, 2, 3), 0, 5, UNKNOWN));
        s.test("Promise 3", "OUTSIDE: each 0 to 9.", "each", e -> {
            Twins.range(e, "purse(1, _, 2, 3)", (x, n) -> x.purse(1, n, 2, 3), 0, 9, OUTSIDE);
            Twins.range(e, "purse(1, 1, _, 3)", (x, n) -> x.purse(1, 1, n, 3), 0, 9, OUTSIDE);
            Twins.range(e, "purse(1, 1, 2, _)", (x, n) -> x.purse(1, 1, 2, n), 0, 9, OUTSIDE);
        });
    }

    private static void likes(Sentences s) {
        s.test("Promise 4", "What THE WIND LIKES a GATE, a FLAG, a SHEET by: 100 times, 10 times, and, as they were.",
            "the least and the greatest", e -> {
            ToupeeWind x = new ToupeeWind();
            e.due("at first", x.likes(3, 0, 0), 111);
            e.due("gates", x.likes(0, 3, 0), 300);
            e.due("flags", x.likes(0, 0, 3), 30);
            e.due("sheets", x.likes(3, 3, 3), 3);
            e.due("all", x.likes(0, 0, 0), 333);
            e.due("none", x.likes(0, 1, 2), 0);
            e.due("each its own", x.likes(0, 0, 0), 12);
        });
        s.test("Promise 4", "OUTSIDE: each 0 to 3.", "each", e -> {
            Twins.range(e, "likes(_, 1, 2)", (x, n) -> x.likes(n, 1, 2), 0, 3, OUTSIDE);
            Twins.range(e, "likes(1, _, 2)", (x, n) -> x.likes(1, n, 2), 0, 3, OUTSIDE);
            Twins.range(e, "likes(1, 2, _)", (x, n) -> x.likes(1, 2, n), 0, 3, OUTSIDE);
        });
    }

    private static void wind(Sentences s) {
        s.test("Promise 5", "Where THE WIND is, its WAY (0 up, 1 down), its FORCE: 100 times the CELL, 10 times the WAY,"
            + " and the FORCE, as they were.", "the least and the greatest", e -> {
            ToupeeWind x = new ToupeeWind();
            e.due("at first", x.wind(11, 1, 9), 1);
            e.due("told(1)", x.told(1), 11);
            e.due("told(2)", x.told(2), 1);
            e.due("told(3)", x.told(3), 9);
            e.due("the greatest", x.wind(0, 0, 1), 1119);
            e.due("the least", x.wind(0, 1, 1), 1);
            e.due("down at 0 stays down", x.wind(11, 0, 1), 11);
            e.due("up at 11 stays up", x.wind(0, 0, 1), 1101);
        });
        s.test("Promise 5", "UNKNOWN: the CELL;", "cells 0 to 11", e ->
            Twins.range(e, "wind(_, 0, 3)", (x, n) -> x.wind(n, 0, 3), 0, 11, UNKNOWN));
        s.test("Promise 5", "OUTSIDE.", "the way 0 to 1, the force 1 to 9", e -> {
            Twins.range(e, "wind(5, _, 3)", (x, n) -> x.wind(5, n, 3), 0, 1, OUTSIDE);
            Twins.range(e, "wind(5, 0, _)", (x, n) -> x.wind(5, 0, n), 1, 9, OUTSIDE);
        });
    }

    private static void pad(Sentences s) {
        s.test("Promise 6", "A sign more: how many.", "from the first to the 60th", e -> {
            ToupeeWind x = new ToupeeWind();
            for (int n = 1; n <= 60; n++) {
                e.due("sign " + n, x.say(33 + n), n);
                e.due("told(0)", x.told(0), n);
            }
        });
        s.test("Promise 6", "OUTSIDE;", "signs 33 to 126", e ->
            Twins.range(e, "say(_)", (x, n) -> x.say(n), 33, 126, OUTSIDE));
        s.test("Promise 6", "OUTSIDE;", "no more than the sign's number is looked at, nor less", e -> {
            ToupeeWind x = new ToupeeWind();
            e.due("say(256 + 46)", x.say(256 + 46), OUTSIDE);
            e.due("say(65536 + 46)", x.say(65536 + 46), OUTSIDE);
            e.due("say(-46)", x.say(-46), OUTSIDE);
        });
        s.test("Promise 6", "FULL.", "the 61st, until it is wiped or done", e -> {
            ToupeeWind x = Expect.text(new ToupeeWind(), ".".repeat(60));
            e.due("the 61st", x.say(46), FULL);
            e.due("again", x.say(126), FULL);
            e.due("told(0)", x.told(0), 60);
            x.wipe();
            e.due("wiped", x.say(46), 1);
            Expect.text(x, ".".repeat(60));
            e.due("the 61st", x.say(46), FULL);
            e.due("done()", x.done(), 60);
            e.due("behind done()", x.say(46), 1);
        });
        s.test("Promise 7", "Signs go: how many there were.", "none, one, sixty", e -> {
            ToupeeWind x = new ToupeeWind();
            e.due("none", x.wipe(), 0);
            x.say('A');
            e.due("one", x.wipe(), 1);
            e.due("told(0)", x.told(0), 0);
            e.due("fault()", x.fault(), NONE);
            e.due("none again", x.wipe(), 0);
            Expect.text(x, "~".repeat(60));
            e.due("sixty", x.wipe(), 60);
            e.due("told(0)", x.told(0), 0);
            e.due("the next sign is the first", x.say('.'), 1);
            e.due("fault()", x.fault(), NONE);
        });
    }
}
