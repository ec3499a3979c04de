import java.util.ArrayList;
import java.util.List;
import java.util.Random;

/** Promises 17 to 20: sights, likings that fit them, what to try next. */
public final class LikingsTest {
    public static void main(String[] args) {
        Expect e = new Expect();
        seenAndForget(e);
        likings(e);
        ask(e);
        againstAll(e);
        e.end();
    }

    private static void seenAndForget(Expect e) {
        ToupeeWind x = new ToupeeWind();
        int[][] outside = {{0, 0, 0, 0}, {10, 0, 0, 0}, {-1, 0, 0, 0}, {1, 4, 0, 0}, {1, -1, 0, 0}, {1, 0, 4, 0},
            {1, 0, -1, 0}, {1, 0, 0, 4}, {1, 0, 0, -1}, {Integer.MAX_VALUE, 0, 0, 0}, {1, 0, Integer.MIN_VALUE, 0}};
        for (int[] a : outside) {
            e.due("seen(" + a[0] + ", " + a[1] + ", " + a[2] + ", " + a[3] + ")",
                x.seen(a[0], a[1], a[2], a[3], true), -2);
        }
        e.due("forget() of none", x.forget(), 0);
        for (int n = 1; n <= 8; n++) {
            e.due("sight " + n, x.seen(n, 3, 3, 3, n < 5), n);
        }
        e.due("told(8)", x.told(8), 8);
        int fits = x.likings(-1);
        e.due("sight 9", x.seen(1, 0, 0, 0, true), -4);
        e.due("sight 9, outside", x.seen(0, 0, 0, 0, true), -2);
        e.due("likings(-1)", x.likings(-1), fits);
        e.due("forget()", x.forget(), 8);
        e.due("told(8)", x.told(8), 0);
        e.due("likings(-1)", x.likings(-1), 64);
    }

    private static void likings(Expect e) {
        ToupeeWind x = new ToupeeWind();
        for (int i = 0; i < 64; i++) {
            e.due("likings(" + i + ")", x.likings(i), 100 * (i / 16) + 10 * (i / 4 % 4) + i % 4);
        }
        e.due("likings(64)", x.likings(64), -6);
        e.due("likings(-2)", x.likings(-2), -6);
        e.due("likings of the least", x.likings(Integer.MIN_VALUE), -6);
        e.due("likings of the greatest", x.likings(Integer.MAX_VALUE), -6);
        // What it likes in fact is no matter.
        x.likes(0, 0, 0);
        x.seen(9, 1, 1, 1, true);
        e.due("likings(-1)", x.likings(-1), 1);
        e.due("likings(0)", x.likings(0), 333);
        e.due("likings(1)", x.likings(1), -6);
        x.seen(9, 1, 1, 1, false);
        e.due("likings(-1)", x.likings(-1), 0);
        e.due("likings(0)", x.likings(0), -6);
    }

    private static void ask(Expect e) {
        ToupeeWind x = new ToupeeWind();
        e.due("ask(2)", x.ask(2), -2);
        e.due("ask(-1)", x.ask(-1), -2);
        e.due("ask(0)", x.ask(0), 2001);
        e.due("ask(1)", x.ask(1), 32);
        x.seen(9, 1, 1, 1, true);
        e.due("one is left: ask(0)", x.ask(0), 1000);
        e.due("one is left: ask(1)", x.ask(1), 1);
        x.seen(1, 0, 0, 0, true);
        e.due("nothing fits: ask(0)", x.ask(0), -6);
        e.due("nothing fits: ask(1)", x.ask(1), -6);
        e.due("nothing fits: ask(2)", x.ask(2), -2);
    }

    private static void againstAll(Expect e) {
        Random r = new Random(20);
        for (int sample = 0; sample < 150; sample++) {
            ToupeeWind x = new ToupeeWind();
            List<Integer> fits = new ArrayList<>();
            for (int code = 0; code < 64; code++) {
                fits.add(100 * (code / 16) + 10 * (code / 4 % 4) + code % 4);
            }
            int liked = 100 * r.nextInt(4) + 10 * r.nextInt(4) + r.nextInt(4);
            for (int n = 1; n <= 8; n++) {
                int tried = 1000 * (r.nextInt(9) + 1) + 100 * r.nextInt(4) + 10 * r.nextInt(4) + r.nextInt(4);
                // Mostly as one liking would have it, so that some are left; at times as it comes.
                boolean enough = n == 8 ? r.nextBoolean() : enough(liked, tried);
                fits.removeIf(liking -> enough(liking, tried) != enough);
                e.due("seen", x.seen(tried / 1000, tried / 100 % 10, tried / 10 % 10, tried % 10, enough), n);
                compare(e, "sample " + sample + " sight " + n + ": ", x, fits);
            }
        }
    }

    private static void compare(Expect e, String where, ToupeeWind x, List<Integer> fits) {
        e.due(where + "likings(-1)", x.likings(-1), fits.size());
        for (int i = 0; i < fits.size(); i += 3) {
            e.due(where + "likings(" + i + ")", x.likings(i), fits.get(i));
        }
        e.due(where + "likings behind the last", x.likings(fits.size()), -6);
        int best = -6;
        int left = -6;
        for (int tried = 1000; tried <= 9333 && !fits.isEmpty(); tried++) {
            if (tried / 100 % 10 > 3 || tried / 10 % 10 > 3 || tried % 10 > 3) {
                continue;
            }
            int yes = 0;
            for (int liking : fits) {
                yes += enough(liking, tried) ? 1 : 0;
            }
            int worst = Math.max(yes, fits.size() - yes);
            if (best < 0 || worst < left) {
                best = tried;
                left = worst;
            }
        }
        e.due(where + "ask(0)", x.ask(0), best);
        e.due(where + "ask(1)", x.ask(1), left);
    }

    private static boolean enough(int liking, int tried) {
        int worth = (liking / 100) * (tried / 100 % 10) + (liking / 10 % 10) * (tried / 10 % 10)
            + (liking % 10) * (tried % 10);
        return worth >= tried / 1000;
    }
}
