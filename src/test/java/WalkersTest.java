/** Promises 2 to 8: walkers, purses, likings, the wind, the pad and its faults. */
public final class WalkersTest {
    private static final int LEAST = Integer.MIN_VALUE;
    private static final int GREATEST = Integer.MAX_VALUE;

    public static void main(String[] args) {
        Expect e = new Expect();
        walker(e);
        purse(e);
        likes(e);
        wind(e);
        sayAndWipe(e);
        fault(e);
        e.end();
    }

    private static void walker(Expect e) {
        ToupeeWind x = new ToupeeWind();
        e.due("walker(3, 11, 255, 9)", x.walker(3, 11, 255, 9), 3000);
        e.due("walker(3, 0, 0, 0)", x.walker(3, 0, 0, 0), 11009);
        e.due("walker(3, 4, 1, 2)", x.walker(3, 4, 1, 2), 0);
        e.due("told(13)", x.told(13), 4);
        e.due("told(23)", x.told(23), 1);
        e.due("told(33)", x.told(33), 2);
        int[][] unknown = {{-1, 0, 0, 0}, {6, 0, 0, 0}, {0, -1, 0, 0}, {0, 12, 0, 0}, {LEAST, 0, 0, 0},
            {GREATEST, 0, 0, 0}, {0, GREATEST, 0, 0}, {0, 12, 256, 0}, {6, 0, 0, 10}, {6, 12, -1, -1}};
        for (int[] a : unknown) {
            e.due("unknown walker(" + a[0] + ", " + a[1] + ", ..)", x.walker(a[0], a[1], a[2], a[3]), -1);
        }
        int[][] outside = {{-1, 0}, {256, 0}, {0, -1}, {0, 10}, {LEAST, 0}, {GREATEST, 0}, {0, LEAST}, {0, GREATEST}};
        for (int[] a : outside) {
            e.due("walker(3, 5, " + a[0] + ", " + a[1] + ")", x.walker(3, 5, a[0], a[1]), -2);
        }
        e.due("refused: told(13)", x.told(13), 4);
        e.due("refused: told(10)", x.told(10), 0);
        // He holds nobody, and nobody holds him; his toupee is on; his purse stays.
        x.walker(0, 4, 0, 0);
        x.purse(3, 1, 2, 3);
        Expect.text(x, "D&A").done();
        e.due("told(43)", x.told(43), 0);
        x.walker(3, 4, 0, 0);
        e.due("behind walker of the holder, told(43)", x.told(43), -6);
        e.due("behind walker, told(63)", x.told(63), 123);
        Expect.text(x, "D&A").done();
        x.walker(0, 4, 0, 0);
        e.due("behind walker of the held one, told(43)", x.told(43), -6);
        Expect.text(x, "....").done();
        e.due("told(7)", x.told(7), 1 << 0 | 1 << 1 | 1 << 2 | 1 << 3 | 1 << 4);
        x.walker(2, 2, 0, 0);
        e.due("behind walker, told(7)", x.told(7), 1 << 0 | 1 << 1 | 1 << 3 | 1 << 4);
        e.due("behind walker, told(52)", x.told(52), -6);
    }

    private static void purse(Expect e) {
        ToupeeWind x = new ToupeeWind();
        e.due("purse(5, 9, 0, 4)", x.purse(5, 9, 0, 4), 222);
        e.due("purse(5, 0, 9, 9)", x.purse(5, 0, 9, 9), 904);
        e.due("told(65)", x.told(65), 99);
        e.due("told(64)", x.told(64), 222);
        e.due("purse(6, ..)", x.purse(6, 0, 0, 0), -1);
        e.due("purse(-1, 10, ..)", x.purse(-1, 10, 0, 0), -1);
        int[][] outside = {{-1, 0, 0}, {0, -1, 0}, {0, 0, -1}, {10, 0, 0}, {0, 10, 0}, {0, 0, 10},
            {LEAST, 0, 0}, {0, GREATEST, 0}};
        for (int[] a : outside) {
            e.due("purse(5, " + a[0] + ", " + a[1] + ", " + a[2] + ")", x.purse(5, a[0], a[1], a[2]), -2);
        }
        e.due("refused: told(65)", x.told(65), 99);
    }

    private static void likes(Expect e) {
        ToupeeWind x = new ToupeeWind();
        e.due("likes(3, 0, 2)", x.likes(3, 0, 2), 111);
        e.due("likes(0, 3, 1)", x.likes(0, 3, 1), 302);
        int[][] outside = {{4, 0, 0}, {0, 4, 0}, {0, 0, 4}, {-1, 0, 0}, {0, -1, 0}, {0, 0, -1}, {GREATEST, 0, 0}};
        for (int[] a : outside) {
            e.due("likes(" + a[0] + ", " + a[1] + ", " + a[2] + ")", x.likes(a[0], a[1], a[2]), -2);
        }
        e.due("likes(1, 1, 1)", x.likes(1, 1, 1), 31);
    }

    private static void wind(Expect e) {
        ToupeeWind x = new ToupeeWind();
        e.due("wind(11, 1, 9)", x.wind(11, 1, 9), 1);
        e.due("wind(4, 0, 2)", x.wind(4, 0, 2), 1119);
        e.due("wind(12, 2, 0)", x.wind(12, 2, 0), -1);
        e.due("wind(-1, 0, 1)", x.wind(-1, 0, 1), -1);
        e.due("wind(0, 2, 1)", x.wind(0, 2, 1), -2);
        e.due("wind(0, -1, 1)", x.wind(0, -1, 1), -2);
        e.due("wind(0, 0, 0)", x.wind(0, 0, 0), -2);
        e.due("wind(0, 0, 10)", x.wind(0, 0, 10), -2);
        e.due("told(1)", x.told(1), 4);
        e.due("told(2)", x.told(2), 0);
        e.due("told(3)", x.told(3), 2);
    }

    private static void sayAndWipe(Expect e) {
        ToupeeWind x = new ToupeeWind();
        e.due("say(32)", x.say(32), -2);
        e.due("say(127)", x.say(127), -2);
        e.due("say(-1)", x.say(-1), -2);
        e.due("say(65536 + 46)", x.say(65536 + 46), -2);
        for (int n = 1; n <= 60; n++) {
            e.due("say, number " + n, x.say(n % 2 == 0 ? 33 : 126), n);
        }
        e.due("the 61st sign", x.say(46), -4);
        e.due("the 61st sign, outside", x.say(32), -2);
        e.due("told(0)", x.told(0), 60);
        e.due("wipe()", x.wipe(), 60);
        e.due("wipe() again", x.wipe(), 0);
        e.due("told(0)", x.told(0), 0);
        e.due("say(46)", x.say(46), 1);
    }

    private static void fault(Expect e) {
        ToupeeWind x = new ToupeeWind();
        String[] good = {"", ".", "!", "A>", "F<", "A0", "A7", "Bg", "Cf", "Ds", "E^", "F|", "A&F", "A&A", "..!!A>B&C."};
        for (String text : good) {
            e.due("fault of " + text, Expect.text(x, text).fault(), -6);
        }
        String[] bad = {"G", "@", "a", ">", "g", "&", "0", "^", "|", "~"};
        for (String text : bad) {
            e.due("fault of " + text, Expect.text(x, text).fault(), 0);
            e.due("fault of ." + text, Expect.text(x, "." + text).fault(), 1);
        }
        String[] wrongDeed = {"A8", "A9", "A/", "A:", "A.", "A!", "AA", "Ah", "AG", "A]", "A}"};
        for (String text : wrongDeed) {
            e.due("fault of " + text, Expect.text(x, text).fault(), 1);
            e.due("fault of " + text + "..", Expect.text(x, text + "..").fault(), 1);
        }
        e.due("fault of A", Expect.text(x, "A").fault(), 1);
        e.due("fault of A>B", Expect.text(x, "A>B").fault(), 3);
        e.due("fault of A&", Expect.text(x, "A&").fault(), 2);
        e.due("fault of A&G", Expect.text(x, "A&G").fault(), 2);
        e.due("fault of A&.", Expect.text(x, "A&.").fault(), 2);
        e.due("fault of A&&", Expect.text(x, "A&&").fault(), 2);
        e.due("fault of A&a", Expect.text(x, "A&a").fault(), 2);
        StringBuilder full = new StringBuilder();
        for (int n = 0; n < 59; n++) {
            full.append('.');
        }
        e.due("fault of 59 hours and F", Expect.text(x, full + "F").fault(), 60);
        e.due("fault of 60 hours", Expect.text(x, full + ".").fault(), -6);
    }
}
