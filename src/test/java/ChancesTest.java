import java.math.BigInteger;
import java.util.HashMap;
import java.util.HashSet;
import java.util.Map;
import java.util.Set;

/** Promises 21 to 23: bowls, gales, years. */
public final class ChancesTest {
    private static final long LOST = -1000000000000000000L;

    public static void main(String[] args) {
        Expect e = new Expect();
        bowls(e);
        gale(e);
        year(e);
        yearAgainstTexts(e);
        e.end();
    }

    private static void bowls(Expect e) {
        Map<Integer, Integer> known = new HashMap<>();
        ToupeeWind x = null;
        for (int n = 99; n >= 0; n--) {
            if (n % 40 == 19 || x == null) {
                x = new ToupeeWind();
            }
            for (int z = 0; z <= 4; z++) {
                int take = take(known, n, z);
                e.due("bowls(" + n + ", " + z + ", 0)", x.bowls(n, z, 0), take == 0 ? 0 : 1);
                e.due("bowls(" + n + ", " + z + ", 1)", x.bowls(n, z, 1), take == 0 ? -6 : take);
            }
        }
        x = new ToupeeWind();
        e.due("bowls(3, 3, 0)", x.bowls(3, 3, 0), 0);
        e.due("bowls(2, 1, 1)", x.bowls(2, 1, 1), 2);
        e.due("bowls(99, 4, 1)", x.bowls(99, 4, 1), 2);
        e.due("bowls(0, 0, 1)", x.bowls(0, 0, 1), -6);
        int[][] outside = {{100, 0, 0}, {-1, 0, 0}, {0, 5, 0}, {0, -1, 0}, {0, 0, 2}, {0, 0, -1}, {Integer.MAX_VALUE, 0, 0}};
        for (int[] a : outside) {
            e.due("bowls(" + a[0] + ", " + a[1] + ", " + a[2] + ")", x.bowls(a[0], a[1], a[2]), -2);
        }
    }

    /** The least winning take, 0 if there is none. */
    private static int take(Map<Integer, Integer> known, int n, int z) {
        Integer found = known.get(10 * n + z);
        if (found != null) {
            return found;
        }
        int best = 0;
        for (int t = 4; t >= 1; t--) {
            if (t <= n && t != z && take(known, n - t, t) == 0) {
                best = t;
            }
        }
        known.put(10 * n + z, best);
        return best;
    }

    private static void gale(Expect e) {
        ToupeeWind x = new ToupeeWind();
        x.wind(7, 1, 8);
        for (int cell = 0; cell < 12; cell++) {
            int comes = 0;
            int cells = 0;
            for (int at = 0; at < 12; at++) {
                for (int force = 1; force <= 9; force++) {
                    for (int step = -1; step <= 1; step += 2) {
                        Set<Integer> reached = reached(at, step, force);
                        comes += reached.contains(cell) ? 1 : 0;
                        cells += reached.size();
                    }
                }
            }
            fraction(e, x, cell, 0, comes);
            fraction(e, x, cell, 1, cells);
        }
        e.due("gale(12, 2, 2)", x.gale(12, 2, 2), LOST - 1);
        e.due("gale(-1, 0, 0)", x.gale(-1, 0, 0), LOST - 1);
        e.due("gale(12, 1, 0)", x.gale(12, 1, 0), LOST - 1);
        e.due("gale(0, 2, 0)", x.gale(0, 2, 0), LOST - 2);
        e.due("gale(0, -1, 0)", x.gale(0, -1, 0), LOST - 2);
        e.due("gale(0, 0, 2)", x.gale(0, 0, 2), LOST - 2);
        e.due("gale(0, 0, -1)", x.gale(0, 0, -1), LOST - 2);
        e.due("told(1)", x.told(1), 7);
        e.due("told(3)", x.told(3), 8);
    }

    private static Set<Integer> reached(int at, int step, int force) {
        Set<Integer> reached = new HashSet<>();
        for (int n = 0; n < force; n++) {
            if (at + step < 0 || at + step > 11) {
                step = -step;
            }
            at += step;
            reached.add(at);
        }
        return reached;
    }

    private static void fraction(Expect e, ToupeeWind x, int cell, int what, int upper) {
        int shared = BigInteger.valueOf(upper).gcd(BigInteger.valueOf(216)).intValue();
        e.due("gale(" + cell + ", " + what + ", 0)", x.gale(cell, what, 0), upper / shared);
        e.due("gale(" + cell + ", " + what + ", 1)", x.gale(cell, what, 1), 216 / shared);
    }

    private static void year(Expect e) {
        ToupeeWind x = new ToupeeWind();
        int[][] outside = {{-1, 1, 0}, {10000, 1, 0}, {0, 0, 0}, {0, 100, 0}, {0, -1, 0}, {0, 1, 3}, {0, 1, -1},
            {Integer.MIN_VALUE, 1, 0}, {0, Integer.MAX_VALUE, 0}};
        for (int[] a : outside) {
            e.due("year(" + a[0] + ", " + a[1] + ", " + a[2] + ")", x.year(a[0], a[1], a[2]), -2);
        }
        e.due("year(0, 9, 0)", x.year(0, 9, 0), 6);
        e.due("year(0, 9, 1)", x.year(0, 9, 1), 0);
        e.due("year(0, 9, 2)", x.year(0, 9, 2), 2);
        e.holds("the greatest seed and the most acts", x.year(9999, 99, 2) >= 0);
        e.due("told(7)", x.told(7), 0);
        e.due("told(4)", x.told(4), 0);
        x.say('.');
        e.due("the pad is no matter", x.year(0, 9, 2), 2);
        e.due("and stays", x.told(0), 1);
    }

    /** The same acts as texts, done one by one on another object, those left out that can not be. */
    private static void yearAgainstTexts(Expect e) {
        for (int sample = 0; sample < 300; sample++) {
            ToupeeWind x = begun(sample);
            ToupeeWind y = begun(sample);
            int seed = sample * 31 % 10000;
            // An act takes up to six calls on the other object, and an object may be called 512 times.
            int m = sample % 80 + 1;
            long draw = seed;
            int losses = 0;
            for (int n = 0; n < m; n++) {
                draw = (75 * draw + 74) % 65537;
                String act = act((int) (draw % 6), (int) (draw / 6 % 8), (int) (draw / 48));
                y.wipe();
                for (char sign : act.toCharArray()) {
                    y.say(sign);
                }
                int off = y.then(6);
                if (off >= 0) {
                    losses += off;
                    y.done();
                }
            }
            int owed = 0;
            for (int w = 0; w < 6; w++) {
                owed += y.told(30 + w);
            }
            e.due("sample " + sample + ": year(" + seed + ", " + m + ", 0)", x.year(seed, m, 0), y.told(7));
            e.due("sample " + sample + ": year(" + seed + ", " + m + ", 1)", x.year(seed, m, 1), owed);
            e.due("sample " + sample + ": year(" + seed + ", " + m + ", 2)", x.year(seed, m, 2), losses);
        }
    }

    private static ToupeeWind begun(int sample) {
        ToupeeWind x = new ToupeeWind();
        x.wind(sample % 12, sample / 12 % 2, sample % 9 + 1);
        x.walker(sample % 6, sample * 5 % 12, sample * 77 % 256, sample % 10);
        x.walker(sample / 6 % 6, sample * 7 % 12, sample * 91 % 256, sample / 10 % 10);
        x.likes(sample % 4, sample / 4 % 4, sample / 16 % 4);
        x.purse(sample % 5, sample % 10, sample / 3 % 10, sample / 7 % 10);
        return x;
    }

    private static String act(int walker, int kind, int z) {
        char letter = (char) ('A' + walker);
        switch (kind) {
            case 0: return letter + ">";
            case 1: return letter + "<";
            case 2: return letter + "" + z % 8;
            case 3: return letter + "" + "gfs".charAt(z % 3);
            case 4: return letter + "^";
            case 5: return z / 6 % 2 == 0 ? letter + "&" + (char) ('A' + z % 6) : letter + "|";
            case 6: return z % 4 == 0 ? "!" : ".";
            default: return ".";
        }
    }
}
