import java.util.List;
import java.util.Random;

/** Long runs of calls by a fixed seed, with right and wrong numbers, each answer beside that of PlainTown. */
public final class RandomRunsTest {
    private static final int RUNS = 1500;
    private static final int CALLS = 340;

    private final Expect e = new Expect();
    private final Random r = new Random(20261117);
    private ToupeeWind x;
    private PlainTown t;
    private StringBuilder pad;
    private PlainTown[] kept;
    private String at;

    public static void main(String[] args) {
        RandomRunsTest test = new RandomRunsTest();
        for (int run = 0; run < RUNS; run++) {
            test.run(run);
        }
        test.e.end();
    }

    private void run(int run) {
        x = new ToupeeWind();
        t = new PlainTown();
        pad = new StringBuilder();
        kept = new PlainTown[2];
        for (int call = 0; call < CALLS; call++) {
            at = "run " + run + " call " + call + ": ";
            // Texts take most calls, as they are told sign by sign.
            if (r.nextInt(4) == 0) {
                call += sayAnAct();
            } else {
                one(r.nextInt(24));
            }
        }
        for (int what = -1; what < 71; what++) {
            told(what);
        }
    }

    /** Mostly a number from least to greatest, at times one that is not. */
    private int number(int least, int greatest) {
        int[] odd = {least - 1, greatest + 1, Integer.MIN_VALUE, Integer.MAX_VALUE, -6, 65536};
        return r.nextInt(40) == 0 ? odd[r.nextInt(odd.length)] : least + r.nextInt(greatest - least + 1);
    }

    private static boolean in(int number, int least, int greatest) {
        return number >= least && number <= greatest;
    }

    private void due(String call, long got, long want) {
        e.due(at + call, got, want);
    }

    private int sayAnAct() {
        String deeds = "><<>0123gfs^^&|&7";
        String act;
        int dice = r.nextInt(10);
        if (dice < 4) {
            act = dice == 0 ? "!" : ".";
        } else {
            act = (char) ('A' + r.nextInt(6)) + "" + deeds.charAt(r.nextInt(deeds.length()));
            act += act.endsWith("&") ? "" + (char) ('A' + r.nextInt(6)) : "";
        }
        for (char sign : act.toCharArray()) {
            say(sign);
        }
        return act.length() - 1;
    }

    private void say(int sign) {
        int want = !in(sign, 33, 126) ? -2 : pad.length() == 60 ? -4 : pad.length() + 1;
        if (want > 0) {
            pad.append((char) sign);
        }
        due("say(" + sign + ")", x.say(sign), want);
    }

    private void one(int which) {
        switch (which) {
            case 0: walker(); break;
            case 1: purse(); break;
            case 2: likes(); break;
            case 3: wind(); break;
            case 4:
                if (r.nextInt(8) == 0) {
                    say(number(33, 126));
                }
                break;
            case 5:
                if (r.nextInt(4) == 0) {
                    due("wipe()", x.wipe(), pad.length());
                    pad.setLength(0);
                }
                break;
            case 6: due("fault()", x.fault(), PlainTown.fault(pad.toString())); break;
            case 7: case 8: judge(); break;
            case 9: case 10: done(); break;
            case 11: case 12: behind(); break;
            case 13: case 14: then(); break;
            case 15: when(); break;
            case 16: seen(); break;
            case 17: likings(); break;
            case 18: year(); break;
            case 19: image(); break;
            case 20: restore(); break;
            case 21: anyNumbers(); break;
            default: told(number(0, 65)); break;
        }
    }

    private void walker() {
        int n = number(0, 5);
        int cell = number(0, 11);
        int hours = number(0, 255);
        int owes = number(0, 9);
        int want = !in(n, 0, 5) || !in(cell, 0, 11) ? -1 : !in(hours, 0, 255) || !in(owes, 0, 9) ? -2
            : 1000 * t.people.get(n).cell + t.people.get(n).owes;
        if (want >= 0) {
            t.place(n, cell, hours, owes);
        }
        due("walker(" + n + ", " + cell + ", " + hours + ", " + owes + ")", x.walker(n, cell, hours, owes), want);
    }

    private void purse() {
        int n = number(0, 5);
        int[] g = {number(0, 9), number(0, 9), number(0, 9)};
        int want = !in(n, 0, 5) ? -1 : !in(g[0], 0, 9) || !in(g[1], 0, 9) || !in(g[2], 0, 9) ? -2 : t.purse(n);
        if (want >= 0) {
            t.people.get(n).goods = g;
        }
        due("purse(" + n + ", ..)", x.purse(n, g[0], g[1], g[2]), want);
    }

    private void likes() {
        int[] g = {number(0, 3), number(0, 3), number(0, 3)};
        int want = !in(g[0], 0, 3) || !in(g[1], 0, 3) || !in(g[2], 0, 3) ? -2
            : 100 * t.likes[0] + 10 * t.likes[1] + t.likes[2];
        if (want >= 0) {
            t.likes = g;
        }
        due("likes(..)", x.likes(g[0], g[1], g[2]), want);
    }

    private void wind() {
        int cell = number(0, 11);
        int way = number(0, 1);
        int force = r.nextInt(3) == 0 ? number(1, 9) : number(1, 3);
        int want = !in(cell, 0, 11) ? -1 : !in(way, 0, 1) || !in(force, 1, 9) ? -2
            : 100 * t.ofAll(0) + 10 * t.ofAll(1) + t.ofAll(2);
        if (want >= 0) {
            t.cell = cell;
            t.step = way == 0 ? 1 : -1;
            t.force = force;
        }
        due("wind(" + cell + ", " + way + ", " + force + ")", x.wind(cell, way, force), want);
    }

    private void judge() {
        int what = number(0, 1);
        int want = !in(what, 0, 1) ? -2 : PlainTown.fault(pad.toString()) != -6 ? -5
            : t.copy().read(pad.toString())[what];
        due("judge(" + what + ") of " + pad, x.judge(what), want);
    }

    /** The town behind the text; null, if there is a fault, or it can not be. */
    private PlainTown tried() {
        PlainTown copy = t.copy();
        return PlainTown.fault(pad.toString()) == -6 && copy.read(pad.toString())[0] == -6 ? copy : null;
    }

    private void done() {
        PlainTown next = tried();
        due("done() of " + pad, x.done(), next == null ? -5 : next.act);
        if (next != null) {
            t = next.copy();
            pad.setLength(0);
        } else if (r.nextBoolean()) {
            due("wipe()", x.wipe(), pad.length());
            pad.setLength(0);
        }
    }

    private void behind() {
        int n = number(0, 5);
        int what = number(0, 7);
        PlainTown next = tried();
        int want = !in(n, 0, 5) ? -1 : !in(what, 0, 7) ? -2 : next == null ? -5 : next.ofWalker(n, what);
        due("behind(" + n + ", " + what + ") of " + pad, x.behind(n, what), want);
    }

    private void then() {
        int what = number(0, 8);
        PlainTown next = tried();
        int want = !in(what, 0, 8) ? -2 : next == null ? -5 : next.ofAll(what);
        due("then(" + what + ") of " + pad, x.then(what), want);
    }

    private void when() {
        int cell = number(0, 11);
        due("when(" + cell + ")", x.when(cell), in(cell, 0, 11) ? t.when(cell) : -1);
    }

    private void seen() {
        if (r.nextInt(12) == 0) {
            due("forget()", x.forget(), t.sights.size());
            t.sights.clear();
        }
        int[] s = {number(1, 9), number(0, 3), number(0, 3), number(0, 3), r.nextInt(2)};
        boolean right = in(s[0], 1, 9) && in(s[1], 0, 3) && in(s[2], 0, 3) && in(s[3], 0, 3);
        int want = !right ? -2 : t.sights.size() == 8 ? -4 : t.sights.size() + 1;
        if (want > 0) {
            t.sights.add(s);
        }
        due("seen(..)", x.seen(s[0], s[1], s[2], s[3], s[4] == 1), want);
    }

    private void likings() {
        List<Integer> fits = t.likings();
        int i = number(-1, fits.size());
        due("likings(" + i + ")", x.likings(i), i == -1 ? fits.size() : in(i, 0, fits.size() - 1) ? fits.get(i) : -6);
    }

    private void year() {
        int seed = number(0, 9999);
        int m = number(1, 99);
        int what = number(0, 2);
        int want = -2;
        if (in(seed, 0, 9999) && in(m, 1, 99) && in(what, 0, 2)) {
            PlainTown copy = t.copy();
            int owed = 0;
            int draw = seed;
            for (int n = 0; n < m; n++) {
                draw = (75 * draw + 74) % 65537;
                copy.attempt(drawn(draw % 6, draw / 6 % 8, draw / 48));
            }
            for (PlainTown.Person p : copy.people) {
                owed += p.owes;
            }
            want = what == 0 ? copy.off() : what == 1 ? owed : copy.losses;
        }
        due("year(" + seed + ", " + m + ", " + what + ")", x.year(seed, m, what), want);
    }

    private static String drawn(int n, int kind, int z) {
        char letter = (char) ('A' + n);
        String held = z / 6 % 2 == 0 ? "&" + (char) ('A' + z % 6) : "|";
        String[] ends = {">", "<", "" + z % 8, "" + "gfs".charAt(z % 3), "^", held};
        return kind < 6 ? letter + ends[kind] : kind == 6 && z % 4 == 0 ? "!" : ".";
    }

    private void image() {
        int n = number(0, 1);
        if (in(n, 0, 1)) {
            kept[n] = t.copy();
        }
        due("image(" + n + ")", x.image(n), in(n, 0, 1) ? 1 : -2);
    }

    private void restore() {
        int n = number(0, 1);
        int want = !in(n, 0, 1) ? -2 : kept[n] == null ? -3 : 1;
        if (want == 1) {
            t = kept[n].copy();
        }
        due("restore(" + n + ")", x.restore(n), want);
    }

    /** Calls that change nothing, with any numbers: they must end, and not throw. */
    private void anyNumbers() {
        int a = r.nextInt();
        int b = number(0, 11);
        int c = r.nextInt();
        x.pass(a, b, c);
        x.arms(a, c);
        x.paid(b, c);
        x.bowls(a, b, c);
        x.gale(a, b, c);
        x.behind(a, c);
    }

    private void told(int what) {
        int n = Math.floorMod(what, 10);
        int row = Math.floorDiv(what, 10);
        int want = -2;
        if (what == 0) {
            want = pad.length();
        } else if (in(what, 1, 6)) {
            want = t.ofAll(what - 1);
        } else if (what == 7) {
            want = t.off();
        } else if (what == 8) {
            want = t.sights.size();
        } else if (in(row, 1, 5) && n < 6) {
            want = t.ofWalker(n, row - 1);
        } else if (row == 6 && n < 6) {
            want = t.purse(n);
        }
        due("told(" + what + ")", x.told(what), want);
    }
}
