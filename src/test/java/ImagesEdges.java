/** Promises 24 to 26: images, and what is told. */
final class ImagesEdges {
    private static final int NONE = -6;
    private static final int OUTSIDE = -2;
    private static final int STATE = -3;

    private ImagesEdges() {
    }

    static void add(Sentences s) {
        image(s);
        restore(s);
        told(s);
        toldOfWalkers(s);
    }

    /** Nothing is as it was in lively, nor as at first; the pad holds one sign. */
    private static void upset(ToupeeWind x) {
        x.likes(2, 3, 3);
        x.forget();
        x.seen(1, 3, 3, 3, false);
        x.wind(2, 0, 7);
        for (int walker = 0; walker < 6; walker++) {
            x.walker(walker, 10, 40, 3);
            x.purse(walker, 5, 6, 7);
        }
        Expect.text(x, "A&B...C<");
        x.done();
        x.say('.');
    }

    private static void image(Sentences s) {
        String words = "All but the PAD is kept in an IMAGE (0, 1): 1.";
        s.test("Promise 24", words, "all of it, in both", e -> {
            for (int n = 0; n < 2; n++) {
                ToupeeWind x = Expect.text(Twins.lively(), ".");
                e.due("image(" + n + ")", x.image(n), 1);
                upset(x);
                e.due("restore(" + n + ")", x.restore(n), 1);
                ToupeeWind y = Expect.text(Twins.lively(), ".");
                y.image(n);
                e.holds("all is as it was, by image " + n, Twins.all(x).equals(Twins.all(y)));
            }
        });
        s.test("Promise 24", words, "the pad is not kept, full or empty", e -> {
            ToupeeWind x = Expect.text(new ToupeeWind(), "A>A>");
            x.image(0);
            x.wipe();
            x.restore(0);
            e.due("it was wiped: told(0)", x.told(0), 0);
            Expect.text(x, ".".repeat(60));
            x.restore(0);
            e.due("it is full: told(0)", x.told(0), 60);
            e.due("it is full: then(4)", x.then(4), 7);
        });
        s.test("Promise 24", words, "none, and eight sights are kept", e -> {
            ToupeeWind x = new ToupeeWind();
            x.image(0);
            for (int n = 0; n < 8; n++) {
                x.seen(9, 1, 1, 1, true);
            }
            x.image(1);
            x.restore(0);
            e.due("none: told(8)", x.told(8), 0);
            e.due("none: likings(-1)", x.likings(-1), 64);
            x.restore(1);
            e.due("eight: told(8)", x.told(8), 8);
            e.due("eight: likings(-1)", x.likings(-1), 1);
            e.due("eight: one more", x.seen(1, 0, 0, 0, true), -4);
        });
        s.test("Promise 24", words, "kept anew: what was kept before is gone, the other one stays", e -> {
            ToupeeWind x = new ToupeeWind();
            x.walker(0, 7, 0, 0);
            x.image(0);
            x.image(1);
            x.walker(0, 8, 0, 0);
            e.due("image(0) again", x.image(0), 1);
            x.walker(0, 9, 0, 0);
            x.restore(0);
            e.due("image 0", x.told(10), 8);
            x.restore(1);
            e.due("image 1", x.told(10), 7);
        });
        s.test("Promise 24", words, "keeping changes nothing else", e -> {
            // What is kept is what the image holds already, so that not even the image is another one.
            Twins.Maker maker = () -> {
                ToupeeWind x = Twins.lively();
                x.restore(0);
                return x;
            };
            Twins.unchanged(e, maker, "image(0)", x -> x.image(0), 1);
        });
        s.test("Promise 24", "OUTSIDE.", "0 and 1", e ->
            Twins.range(e, "image(_)", (x, n) -> x.image(n), 0, 1, OUTSIDE));
    }

    private static void restore(Sentences s) {
        String words = "It is as it was when it was kept: 1.";
        s.test("Promise 25", words, "at first, behind a day, and again", e -> {
            ToupeeWind x = new ToupeeWind();
            x.image(1);
            for (int n = 0; n < 3; n++) {
                Expect.text(x, "!.........A>A&B").done();
                e.due("the hour", x.told(4), 1);
                e.due("the day", x.told(5), 1);
                e.due("the force", x.told(3), 2);
                e.due("A holds B", x.told(40), 1);
                e.due("restore(1)", x.restore(1), 1);
                e.due("the hour", x.told(4), 0);
                e.due("the day", x.told(5), 0);
                e.due("the force", x.told(3), 1);
                e.due("A holds nobody", x.told(40), NONE);
                e.due("off", x.told(7), 0);
            }
        });
        s.test("Promise 25", words, "what comes behind restoring does not change what was kept", e -> {
            ToupeeWind x = new ToupeeWind();
            x.image(0);
            x.restore(0);
            upset(x);
            x.restore(0);
            x.wipe();
            e.holds("as at first", Twins.all(x).equals(Twins.all(keptAtFirst())));
        });
        s.test("Promise 25", words, "restoring one leaves the other", e -> {
            ToupeeWind x = new ToupeeWind();
            x.image(0);
            x.walker(0, 11, 0, 0);
            x.image(1);
            x.restore(0);
            e.due("image 0", x.told(10), 0);
            e.due("restore(1)", x.restore(1), 1);
            e.due("image 1", x.told(10), 11);
        });
        s.test("Promise 25", "OUTSIDE;", "0 and 1", e -> {
            Twins.Open kept = (x, n) -> {
                x.image(1);
                return x.restore(n);
            };
            for (int n = 0; n < 2; n++) {
                e.due("restore(" + n + ")", kept.on(Twins.lively(), n), 1);
            }
            for (int n : new int[] {-1, 2, Integer.MIN_VALUE, Integer.MAX_VALUE}) {
                Twins.unchanged(e, Twins::lively, "restore(" + n + ")", x -> x.restore(n), OUTSIDE);
            }
        });
        s.test("Promise 25", "STATE: it was not.", "neither, or only the other one", e -> {
            ToupeeWind x = new ToupeeWind();
            e.due("restore(0)", x.restore(0), STATE);
            e.due("restore(1)", x.restore(1), STATE);
            x.image(1);
            e.due("restore(0)", x.restore(0), STATE);
            x = new ToupeeWind();
            x.image(0);
            e.due("restore(1)", x.restore(1), STATE);
            x.image(2);
            e.due("restore(1), behind a refused image", x.restore(1), STATE);
        });
    }

    private static ToupeeWind keptAtFirst() {
        ToupeeWind x = new ToupeeWind();
        x.image(0);
        return x;
    }

    private static void told(Sentences s) {
        String words = "0 signs, 1 the CELL of THE WIND, 2 its WAY, 3 its FORCE, 4 the hour, 5 the day, 6 HUSHED ones (bits),"
            + " 7 TOUPEES that are OFF (bits), 8 SIGHTS;";
        s.test("Promise 26", words, "the least of each", e -> {
            ToupeeWind x = new ToupeeWind();
            int[] due = {0, 0, 0, 1, 0, 0, 0, 0, 0};
            for (int what = 0; what < 9; what++) {
                e.due("told(" + what + ")", x.told(what), due[what]);
            }
        });
        s.test("Promise 26", words, "the greatest of most", e -> {
            ToupeeWind x = new ToupeeWind();
            for (int walker = 0; walker < 6; walker++) {
                x.walker(walker, 1, 0, 0);
            }
            Expect.text(x, ".".repeat(15)).done();
            e.due("told(7)", x.told(7), 63);
            x.wind(11, 1, 9);
            for (int n = 0; n < 8; n++) {
                x.seen(1, 0, 0, 0, false);
            }
            Expect.text(x, "~".repeat(60));
            e.due("told(6)", x.told(6), 0);
            for (int walker = 0; walker < 6; walker++) {
                x.walker(walker, 1, 128, 3);
            }
            int[] due = {60, 11, 1, 9, 7, 1, 63, 0, 8};
            for (int what = 0; what < 9; what++) {
                e.due("told(" + what + ")", x.told(what), due[what]);
            }
        });
    }

    private static void toldOfWalkers(Sentences s) {
        String words = "10 and a WALKER: the CELL; 20: HOURS; 30: what he OWES; 40: whom he HOLDS (NONE); 50: where his TOUPEE lies"
            + " (NONE: ON); 60: 100 times GATES, 10 times FLAGS, and SHEETS.";
        s.test("Promise 26", words, "each of each walker", e -> {
            ToupeeWind x = new ToupeeWind();
            for (int walker = 0; walker < 6; walker++) {
                x.walker(walker, 11 - walker / 2, 200 + walker, 4 + walker);
                x.purse(walker, walker, 9 - walker, walker + 3);
            }
            x.wind(8, 0, 2);
            Expect.text(x, "A&BE&F.").done();
            int[] holds = {1, NONE, NONE, NONE, 5, NONE};
            int[] lies = {NONE, NONE, 11, 11, 10, 10};
            for (int walker = 0; walker < 6; walker++) {
                e.due("cell", x.told(10 + walker), 11 - walker / 2);
                e.due("hours", x.told(20 + walker), 200 + walker);
                e.due("owed", x.told(30 + walker), 4 + walker);
                e.due("held", x.told(40 + walker), holds[walker]);
                e.due("lies", x.told(50 + walker), lies[walker]);
                e.due("goods", x.told(60 + walker), 100 * walker + 10 * (9 - walker) + walker + 3);
            }
        });
        s.test("Promise 26", "OUTSIDE.", "every number below, between and above", e -> {
            for (int what = -70; what <= 200; what++) {
                boolean right = what >= 0 && what <= 8 || what >= 10 && what <= 65 && what % 10 <= 5;
                int answer = new ToupeeWind().told(what);
                e.holds("told(" + what + ") is " + (right ? "told" : "refused"), (answer == OUTSIDE) != right);
            }
            for (int what : new int[] {-1, 9, 16, 19, 66, 70, Integer.MIN_VALUE, Integer.MAX_VALUE}) {
                Twins.unchanged(e, Twins::lively, "told(" + what + ")", x -> x.told(what), OUTSIDE);
            }
        });
    }
}
