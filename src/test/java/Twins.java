import java.util.ArrayList;
import java.util.List;

/** Objects that were made alike: one of them gets a call more, and all that can be told of both is compared. */
final class Twins {
    interface Call {
        long on(ToupeeWind x);
    }

    /** A call with one of its numbers left open. */
    interface Open {
        long on(ToupeeWind x, int number);
    }

    interface Maker {
        ToupeeWind make();
    }

    private Twins() {
    }

    /** Nothing is as it was at first; image 0 is kept, image 1 is not; the text on the pad can be. */
    static ToupeeWind lively() {
        ToupeeWind x = new ToupeeWind();
        x.likes(3, 0, 2);
        x.seen(5, 1, 2, 0, true);
        x.walker(3, 8, 129, 7);
        x.image(0);
        x.walker(0, 3, 5, 6);
        x.walker(4, 3, 21, 1);
        x.walker(5, 7, 6, 2);
        x.purse(2, 1, 0, 9);
        x.wind(9, 1, 2);
        x.likes(1, 2, 0);
        x.seen(9, 2, 3, 1, false);
        Expect.text(x, "E&A..........AgE7!").done();
        return Expect.text(x, "C>!.F2");
    }

    /** As lively, but more must come on the pad. */
    static ToupeeWind faulty() {
        return Expect.text(lively(), ".A&");
    }

    /** As lively, but the second act on the pad can not be. */
    static ToupeeWind impossible() {
        return Expect.text(lively(), ".E&EA>");
    }

    /** As lively, with as many signs and sights as can be. */
    static ToupeeWind full() {
        ToupeeWind x = lively();
        for (int n = x.told(8); n < 8; n++) {
            x.seen(9, 3, 3, n % 4, true);
        }
        return Expect.text(x, ".".repeat(59) + "!");
    }

    /** All that can be told, at last by calls that change it; it takes some 300 calls. */
    static List<Long> all(ToupeeWind x) {
        List<Long> found = new ArrayList<>();
        tellAll(found, x);
        found.add((long) x.fault());
        for (int what = 0; what < 9; what++) {
            found.add((long) (what < 2 ? x.judge(what) : 0));
            found.add((long) x.then(what));
        }
        for (int walker = 0; walker < 6; walker++) {
            for (int what = 0; what < 8; what++) {
                found.add((long) x.behind(walker, what));
            }
            found.add((long) x.paid(walker, 1));
        }
        found.add((long) x.when(6));
        found.add((long) x.arms(11, 1));
        found.add((long) x.year(123, 60, 0));
        found.add((long) x.year(123, 60, 2));
        found.add((long) x.done());
        tellAll(found, x);
        found.add((long) x.wipe());
        for (int n = 0; n < 2; n++) {
            found.add((long) x.likes(1, 1, 1));
            found.add((long) x.restore(n));
            tellAll(found, x);
        }
        found.add((long) x.likes(1, 1, 1));
        return found;
    }

    private static void tellAll(List<Long> found, ToupeeWind x) {
        for (int what = 0; what < 66; what++) {
            if (what < 9 || what % 10 < 6 && what >= 10) {
                found.add((long) x.told(what));
            }
        }
        found.add((long) x.likings(-1));
        found.add((long) x.ask(0));
    }

    /** The call answers as due, and all is as if it had not been made. */
    static void unchanged(Expect e, Maker maker, String name, Call call, long due) {
        ToupeeWind x = maker.make();
        e.due(name, call.on(x), due);
        e.holds(name + " changes nothing", all(x).equals(all(maker.make())));
    }

    /** All is as if the call, whatever it answers, had not been made. */
    static void untouched(Expect e, Maker maker, String name, Call call) {
        ToupeeWind x = maker.make();
        call.on(x);
        e.holds(name + " changes nothing", all(x).equals(all(maker.make())));
    }

    /** Each number from least to greatest is taken; those below and above are refused and change nothing. */
    static void range(Expect e, String name, Open call, int least, int greatest, long refusal) {
        for (int number = least; number <= greatest; number++) {
            long answer = call.on(lively(), number);
            e.holds(name + " takes " + number, answer >= 0 || answer == ToupeeWind.NONE);
        }
        for (int wrong : new int[] {least - 1, greatest + 1, Integer.MIN_VALUE, Integer.MAX_VALUE}) {
            unchanged(e, Twins::lively, name + " of " + wrong, x -> call.on(x, wrong), refusal);
        }
    }
}
