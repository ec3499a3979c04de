import java.util.Random;

/** Promises 13 to 16: when it blows where, passes, arms, payments. */
public final class PassesTest {
    public static void main(String[] args) {
        Expect e = new Expect();
        when(e);
        pass(e);
        passAgainstEveryWalk(e);
        arms(e);
        armsAgainstEveryChoice(e);
        paid(e);
        paidAgainstEveryPurse(e);
        nothingChanges(e);
        e.end();
    }

    private static void when(Expect e) {
        ToupeeWind x = new ToupeeWind();
        e.due("when(1)", x.when(1), 1 << 1);
        e.due("when(8)", x.when(8), 1);
        e.due("when(0)", x.when(0), 0);
        e.due("when(12)", x.when(12), -1);
        e.due("when(-1)", x.when(-1), -1);
        Expect.text(x, "...").done();
        e.due("at hour 3: when(4)", x.when(4), 1 << 4);
        e.due("at hour 3: when(11)", x.when(11), 1 << 3);
        e.due("at hour 3: when(3)", x.when(3), 0);
        x.wind(11, 0, 1);
        e.due("it turns: when(10)", x.when(10), 1 << 4);
        e.due("it turns: when(11)", x.when(11), 0);
        x.wind(0, 1, 9);
        e.due("when(9)", x.when(9) & 1 << 4, 1 << 4);
        e.due("when(0)", x.when(0) & 1 << 4, 0);
        // The text on the pad is no matter.
        Expect.text(x, "!!..");
        x.wind(5, 0, 1);
        e.due("when(6)", x.when(6), 1 << 4);
    }

    private static void pass(Expect e) {
        ToupeeWind x = new ToupeeWind();
        e.due("pass(12, 0, 2)", x.pass(12, 0, 2), -1);
        e.due("pass(0, 12, 2)", x.pass(0, 12, 2), -1);
        e.due("pass(-1, 0, 0)", x.pass(-1, 0, 0), -1);
        e.due("pass(0, -1, 0)", x.pass(0, -1, 0), -1);
        e.due("pass(0, 1, 2)", x.pass(0, 1, 2), -2);
        e.due("pass(0, 1, -1)", x.pass(0, 1, -1), -2);
        e.due("pass(7, 7, 0)", x.pass(7, 7, 0), 0);
        e.due("pass(7, 7, 1)", x.pass(7, 7, 1), -6);
        e.due("pass(11, 0, 0)", x.pass(11, 0, 0), 11);
        e.due("pass(11, 0, 1)", x.pass(11, 0, 1), 2);
        // Above the wind that comes down: it can be met by changing cells with it.
        x.wind(5, 1, 1);
        e.due("pass(4, 5, 0)", x.pass(4, 5, 0), 1);
        e.due("pass(4, 5, 1)", x.pass(4, 5, 1), 1);
        e.due("pass(3, 4, 0)", x.pass(3, 4, 0), 2);
        e.due("pass(5, 4, 0)", x.pass(5, 4, 0), 2);
        e.due("pass(5, 4, 1)", x.pass(5, 4, 1), 0);
        x.wind(0, 0, 9);
        e.due("pass(0, 11, 0)", x.pass(0, 11, 0), -6);
        e.due("pass(0, 11, 1)", x.pass(0, 11, 1), -6);
    }

    /** All cells that can be stood on, hour by hour, for each first step: far beyond any repetition. */
    private static void passAgainstEveryWalk(Expect e) {
        for (int air = 0; air < 12 * 2 * 9; air++) {
            ToupeeWind x = new ToupeeWind();
            int cell = air / 18;
            int way = air / 9 % 2;
            int force = air % 9 + 1;
            x.wind(cell, way, force);
            for (int from = 0; from < 12; from++) {
                for (int to = 0; to < 12; to++) {
                    int[] due = walk(cell, way == 0 ? 1 : -1, force, from, to);
                    String call = "wind " + cell + " " + way + " " + force + ": pass(" + from + ", " + to;
                    e.due(call + ", 0)", x.pass(from, to, 0), due[0]);
                    e.due(call + ", 1)", x.pass(from, to, 1), due[1]);
                }
            }
        }
    }

    private static int[] walk(int cell, int step, int force, int from, int to) {
        if (from == to) {
            return new int[] {0, -6};
        }
        int[] moves = {0, 1, -1};
        boolean[][] stands = new boolean[3][12];
        for (int hour = 1; hour <= 600; hour++) {
            boolean[] blown = new boolean[12];
            for (int n = 0; n < force; n++) {
                if (cell + step < 0 || cell + step > 11) {
                    step = -step;
                }
                cell += step;
                blown[cell] = true;
            }
            boolean[][] next = new boolean[3][12];
            for (int first = 0; first < 3; first++) {
                for (int at = 0; at < 12; at++) {
                    for (int move = 0; move < 3; move++) {
                        int goes = at + moves[move];
                        boolean can = hour == 1 ? at == from && move == first : stands[first][at];
                        if (can && goes >= 0 && goes <= 11 && !blown[goes]) {
                            next[first][goes] = true;
                        }
                    }
                }
            }
            stands = next;
            for (int first = 0; first < 3; first++) {
                if (stands[first][to]) {
                    return new int[] {hour, first};
                }
            }
        }
        return new int[] {-6, -6};
    }

    private static void arms(Expect e) {
        ToupeeWind x = new ToupeeWind();
        e.due("arms(12, 0)", x.arms(12, 0), -2);
        e.due("arms(-1, 0)", x.arms(-1, 0), -2);
        e.due("arms(0, 2)", x.arms(0, 2), -2);
        e.due("arms(0, -1)", x.arms(0, -1), -2);
        e.due("nobody is at peace: arms(11, 0)", x.arms(11, 0), 0);
        e.due("nobody is at peace: arms(11, 1)", x.arms(11, 1), 0);
        x.walker(2, 2, 1, 3);
        e.due("arms(0, 0)", x.arms(0, 0), 0);
        e.due("arms(1, 0)", x.arms(1, 0), 1);
        e.due("arms(1, 1)", x.arms(1, 1), 1 << 1);
        e.due("arms(2, 1)", x.arms(2, 1), 1 << 0);
        // Two holders, of whom one can reach but one: the other one must leave that one to him.
        x.walker(0, 0, 1, 0);
        x.walker(4, 11, 0, 0);
        x.walker(5, 11, 0, 0);
        e.due("arms(1, 0)", x.arms(1, 0), 2);
        e.due("arms(1, 1)", x.arms(1, 1), 1 << 1 | 1 << 3);
        x.walker(2, 2, 1, 4);
        e.due("who owes 4 is none to hold: arms(1, 1)", x.arms(1, 1), 1 << 1);
        for (int w = 0; w < 6; w++) {
            x.walker(w, 0, 255, 0);
        }
        e.due("all are at peace: arms(11, 0)", x.arms(11, 0), 0);
    }

    private static void armsAgainstEveryChoice(Expect e) {
        Random r = new Random(15);
        for (int sample = 0; sample < 2000; sample++) {
            ToupeeWind x = new ToupeeWind();
            int[] cell = new int[6];
            boolean[] peace = new boolean[6];
            for (int w = 0; w < 6; w++) {
                cell[w] = r.nextInt(12);
                peace[w] = r.nextBoolean();
                x.walker(w, cell[w], peace[w] ? 1 : 254, 0);
            }
            for (int d = 0; d < 12; d++) {
                int best = best(cell, peace, d, 0, 0);
                e.due("sample " + sample + ": arms(" + d + ", 0)", x.arms(d, 0), Integer.bitCount(best));
                e.due("sample " + sample + ": arms(" + d + ", 1)", x.arms(d, 1), best);
            }
        }
    }

    private static int best(int[] cell, boolean[] peace, int d, int holder, int held) {
        if (holder == 6) {
            return held;
        }
        int best = best(cell, peace, d, holder + 1, held);
        for (int w = 0; w < 6 && peace[holder]; w++) {
            if (!peace[w] && (held & 1 << w) == 0 && Math.abs(cell[w] - cell[holder]) <= d) {
                int found = best(cell, peace, d, holder + 1, held | 1 << w);
                int more = Integer.bitCount(found) - Integer.bitCount(best);
                if (more > 0 || more == 0 && found < best) {
                    best = found;
                }
            }
        }
        return best;
    }

    private static void paid(Expect e) {
        ToupeeWind x = new ToupeeWind();
        e.due("paid(6, 2)", x.paid(6, 2), -1);
        e.due("paid(-1, 0)", x.paid(-1, 0), -1);
        e.due("paid(0, 2)", x.paid(0, 2), -2);
        e.due("paid(0, -1)", x.paid(0, -1), -2);
        e.due("nothing is owed: paid(0, 0)", x.paid(0, 0), 0);
        e.due("nothing is owed: paid(0, 1)", x.paid(0, 1), 0);
        x.walker(0, 0, 0, 7);
        e.due("too little: paid(0, 0)", x.paid(0, 0), -6);
        e.due("too little: paid(0, 1)", x.paid(0, 1), -6);
        x.purse(0, 9, 9, 9);
        x.likes(0, 0, 0);
        e.due("it likes none: paid(0, 0)", x.paid(0, 0), -6);
        x.purse(0, 2, 2, 2);
        x.likes(1, 2, 1);
        e.due("paid(0, 0)", x.paid(0, 0), 5);
        e.due("paid(0, 1)", x.paid(0, 1), 122);
        x.likes(3, 2, 2);
        e.due("paid(0, 0)", x.paid(0, 0), 3);
        e.due("paid(0, 1)", x.paid(0, 1), 102);
    }

    private static void paidAgainstEveryPurse(Expect e) {
        Random r = new Random(16);
        for (int sample = 0; sample < 6000; sample++) {
            ToupeeWind x = new ToupeeWind();
            int[] n = new int[7];
            int[] limits = {10, 10, 10, 4, 4, 4, 10};
            for (int at = 0; at < 7; at++) {
                n[at] = r.nextInt(limits[at]);
            }
            x.purse(1, n[0], n[1], n[2]);
            x.likes(n[3], n[4], n[5]);
            x.walker(1, 1, 0, n[6]);
            int best = -6;
            int which = -6;
            for (int code = 0; code <= 999; code++) {
                int g = code / 100;
                int f = code / 10 % 10;
                int s = code % 10;
                boolean his = g <= n[0] && f <= n[1] && s <= n[2];
                if (his && g * n[3] + f * n[4] + s * n[5] >= n[6] && (best < 0 || g + f + s < best)) {
                    best = g + f + s;
                    which = code;
                }
            }
            e.due("sample " + sample + ": paid(1, 0)", x.paid(1, 0), best);
            e.due("sample " + sample + ": paid(1, 1)", x.paid(1, 1), which);
        }
    }

    private static void nothingChanges(Expect e) {
        ToupeeWind x = new ToupeeWind();
        x.walker(0, 3, 255, 3);
        x.walker(1, 3, 0, 5);
        x.when(3);
        x.pass(2, 9, 0);
        x.arms(11, 1);
        x.paid(1, 1);
        e.due("told(1)", x.told(1), 0);
        e.due("told(4)", x.told(4), 0);
        e.due("told(40)", x.told(40), -6);
        e.due("told(31)", x.told(31), 5);
        e.due("told(61)", x.told(61), 222);
    }
}
