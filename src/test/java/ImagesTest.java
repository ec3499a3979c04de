/** Promises 24 to 26: images, and what is told. */
public final class ImagesTest {
    public static void main(String[] args) {
        Expect e = new Expect();
        images(e);
        told(e);
        e.end();
    }

    private static int[] all(ToupeeWind x) {
        int[] found = new int[70];
        for (int what = 0; what < 70; what++) {
            found[what] = what == 0 ? 0 : x.told(what);
        }
        return found;
    }

    private static void same(Expect e, String where, int[] got, int[] want) {
        for (int what = 0; what < 70; what++) {
            e.due(where + ": told(" + what + ")", got[what], want[what]);
        }
    }

    private static void images(Expect e) {
        ToupeeWind x = new ToupeeWind();
        e.due("image(2)", x.image(2), -2);
        e.due("image(-1)", x.image(-1), -2);
        e.due("restore(2)", x.restore(2), -2);
        e.due("restore(-1)", x.restore(-1), -2);
        e.due("restore(1)", x.restore(1), -3);
        x.walker(0, 3, 5, 6);
        x.walker(4, 3, 5, 0);
        x.purse(2, 1, 0, 9);
        x.wind(9, 1, 2);
        x.likes(3, 2, 1);
        x.seen(9, 1, 1, 1, true);
        Expect.text(x, "E&A...AgE7!").done();
        x.say('A');
        int[] first = all(x);
        e.due("image(1)", x.image(1), 1);
        e.due("restore(0)", x.restore(0), -3);
        x.say('&');
        for (int w = 0; w < 6; w++) {
            x.walker(w, 11 - w, 9, 9);
            x.purse(w, 0, 0, 0);
        }
        x.likes(0, 0, 0);
        x.forget();
        x.seen(1, 0, 0, 0, true);
        x.seen(1, 0, 0, 0, true);
        x.wind(1, 0, 9);
        e.due("fault()", x.fault(), 2);
        e.due("restore(1)", x.restore(1), 1);
        same(e, "restored", all(x), first);
        e.due("the pad stays: told(0)", x.told(0), 2);
        e.due("the pad stays: fault()", x.fault(), 2);
        e.due("likings(-1)", x.likings(-1), 1);
        e.due("likings(0)", x.likings(0), 333);
        // What comes behind does not change what was kept; an image can be restored again, and kept anew.
        Expect.text(x, "E|AfAs.").done();
        e.due("image(0)", x.image(0), 1);
        int[] second = all(x);
        e.due("restore(1) again", x.restore(1), 1);
        same(e, "restored again", all(x), first);
        e.due("likes(1, 1, 1)", x.likes(1, 1, 1), 321);
        e.due("restore(0)", x.restore(0), 1);
        same(e, "the other one", all(x), second);
        x.image(1);
    }

    private static void told(Expect e) {
        ToupeeWind x = new ToupeeWind();
        int[] outside = {-1, 9, 16, 19, 26, 36, 46, 56, 66, 70, 71, 100, 110, Integer.MIN_VALUE, Integer.MAX_VALUE};
        for (int what : outside) {
            e.due("told(" + what + ")", x.told(what), -2);
        }
        x.walker(1, 6, 3, 1);
        x.walker(5, 6, 0, 8);
        x.purse(1, 1, 2, 3);
        x.wind(3, 1, 4);
        x.seen(5, 1, 2, 3, false);
        Expect.text(x, "B&F!........B>.");
        x.done();
        Expect.text(x, "A>");
        int[] due = {2, x.then(0), x.then(1), 5, 1, 1, x.then(5), -1, 1};
        for (int what = 0; what < due.length; what++) {
            if (what != 7) {
                e.due("told(" + what + ")", x.told(what), due[what]);
            }
        }
        e.due("hushed at hour 1", x.told(6), 1 << 1 | 1 << 5);
        e.due("off", x.told(7), 1 << 0 | 1 << 2 | 1 << 3 | 1 << 4 | 1 << 1 | 1 << 5);
        int[][] of = {{11, 7}, {15, 7}, {21, 3}, {25, 0}, {31, 2}, {35, 8}, {41, 5}, {45, -6}, {61, 123}, {60, 222}};
        for (int[] a : of) {
            e.due("told(" + a[0] + ")", x.told(a[0]), a[1]);
        }
        e.due("where A's lies", x.told(50), 0);
    }
}
