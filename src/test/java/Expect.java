/** Counts the calls whose answers are not the ones that are due, and tells each. */
final class Expect {
    private int wrong = 0;
    private int calls = 0;
    private String where = "";

    /** What stands ahead of each wrong answer that is told from here on. */
    void about(String place) {
        where = place;
    }

    void due(String call, long got, long want) {
        calls++;
        if (got != want) {
            wrong++;
            System.out.println(where + call + " answered " + got + ", due is " + want);
        }
    }

    void holds(String what, boolean so) {
        calls++;
        if (!so) {
            wrong++;
            System.out.println(where + "not so: " + what);
        }
    }

    int calls() {
        return calls;
    }

    /** Writes a text on the pad in place of what is there. */
    static ToupeeWind text(ToupeeWind x, String signs) {
        x.wipe();
        for (int place = 0; place < signs.length(); place++) {
            x.say(signs.charAt(place));
        }
        return x;
    }

    void end() {
        System.out.println(wrong == 0 ? calls + " answers are as due" : wrong + " of " + calls + " answers are not as due");
        if (wrong != 0) {
            System.exit(1);
        }
    }
}
