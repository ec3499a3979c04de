/** Promises 9 to 12: texts judged, done, and what is behind them. */
public final class DaysTest {
    public static void main(String[] args) {
        Expect e = new Expect();
        reasons(e);
        refusals(e);
        hours(e);
        theWind(e);
        hush(e);
        lossesAreCounted(e);
        doneOrNot(e);
        lastHour(e);
        e.end();
    }

    private static void judged(Expect e, ToupeeWind x, String text, int act, int why) {
        Expect.text(x, text);
        e.due("judge(0) of " + text, x.judge(0), act);
        e.due("judge(1) of " + text, x.judge(1), why);
    }

    private static void reasons(Expect e) {
        ToupeeWind x = new ToupeeWind();
        judged(e, x, "", -6, -6);
        judged(e, x, "A>A>A<A<", -6, -6);
        judged(e, x, "A<", 0, 2);
        judged(e, x, "A>A<A<.", 2, 2);
        x.walker(5, 11, 0, 0);
        judged(e, x, "F>", 0, 2);
        judged(e, x, "F<F>F>", 2, 2);
        // 1 comes ahead of all others, but a held one may state, pay and let go.
        judged(e, x, "A>A&BB>", 2, 1);
        judged(e, x, "A>A&BB<", 2, 1);
        judged(e, x, "A>A&BB^", 2, 1);
        judged(e, x, "A>A&BB&B", 2, 1);
        judged(e, x, "A>A&BB&A", 2, 1);
        judged(e, x, "A>A&BB0B7", -6, -6);
        judged(e, x, "A>A&BB|", 2, 8);
        judged(e, x, "A>A&BBg", 2, 5);
        judged(e, x, "B<A&BB<", 2, 1);
        judged(e, x, "A>A&BA|B>", -6, -6);
        // 7
        judged(e, x, "A&A", 0, 7);
        judged(e, x, "A&B", 0, 7);
        judged(e, x, "A>A&BA&C", 2, 7);
        judged(e, x, "A>A&BA&B", 2, 7);
        judged(e, x, "A>A&BC<C&A", 3, 7);
        judged(e, x, "A>A&BC<C&B", 3, 7);
        judged(e, x, "A>A&BC<A&C", 3, 7);
        judged(e, x, "A|", 0, 8);
        judged(e, x, "A>A&BA|A|", 3, 8);
        // 3, 4, 5
        x.walker(0, 0, 0, 4);
        judged(e, x, "A0", 0, 3);
        judged(e, x, "AgA0", -6, -6);
        x.walker(0, 0, 1, 9);
        judged(e, x, "A0", 0, 3);
        x.walker(0, 0, 0, 1);
        judged(e, x, "AgAg", 1, 5);
        judged(e, x, "AfAs", 1, 5);
        x.purse(0, 0, 0, 0);
        judged(e, x, "Ag", 0, 4);
        judged(e, x, "Af", 0, 4);
        judged(e, x, "As", 0, 4);
        x.walker(0, 0, 0, 0);
        judged(e, x, "As", 0, 4);
        // 6
        x = new ToupeeWind();
        judged(e, x, "B^", 0, 6);
        judged(e, x, ".B^", 1, 6);
        judged(e, x, ".B>B^", -6, -6);
        judged(e, x, ".B>B^B^", 3, 6);
        judged(e, x, ".B>B>B^", 3, 6);
        // 9
        judged(e, x, "!!!!!!!!", -6, -6);
        judged(e, x, "!!!!!!!!!", 8, 9);
        x.wind(0, 0, 9);
        judged(e, x, "!", 0, 9);
    }

    private static void refusals(Expect e) {
        ToupeeWind x = Expect.text(new ToupeeWind(), "A");
        e.due("judge(2)", x.judge(2), -2);
        e.due("judge(-1)", x.judge(-1), -2);
        e.due("judge(0) with a fault", x.judge(0), -5);
        e.due("judge(1) with a fault", x.judge(1), -5);
        e.due("done() with a fault", x.done(), -5);
        e.due("behind(6, 8)", x.behind(6, 8), -1);
        e.due("behind(-1, 0)", x.behind(-1, 0), -1);
        e.due("behind(0, 8)", x.behind(0, 8), -2);
        e.due("behind(0, -1)", x.behind(0, -1), -2);
        e.due("behind(0, 0)", x.behind(0, 0), -5);
        e.due("then(9)", x.then(9), -2);
        e.due("then(-1)", x.then(-1), -2);
        e.due("then(0)", x.then(0), -5);
        e.due("told(0)", x.told(0), 1);
        Expect.text(x, ".A<");
        e.due("done() of what can not be", x.done(), -5);
        e.due("behind of what can not be", x.behind(0, 0), -5);
        e.due("then of what can not be", x.then(0), -5);
        e.due("then(9) of what can not be", x.then(9), -2);
        e.due("told(0)", x.told(0), 3);
        e.due("told(4)", x.told(4), 0);
        e.due("told(7)", x.told(7), 0);
    }

    private static void hours(Expect e) {
        ToupeeWind x = new ToupeeWind();
        x.walker(0, 0, 255, 2);
        x.walker(1, 1, 7, 0);
        x.walker(2, 2, 1, 0);
        x.walker(3, 3, 255, 7);
        Expect.text(x, ".......");
        e.due("seven hours: then(3)", x.then(3), 7);
        e.due("seven hours: then(4)", x.then(4), 0);
        e.due("seven hours: owed by A", x.behind(0, 2), 2);
        Expect.text(x, "........");
        e.due("eight hours: then(3)", x.then(3), 0);
        e.due("eight hours: then(4)", x.then(4), 1);
        e.due("eight hours: owed by A", x.behind(0, 2), 6);
        e.due("eight hours: owed by B", x.behind(1, 2), 1);
        e.due("eight hours: owed by C", x.behind(2, 2), 0);
        e.due("eight hours: owed by D", x.behind(3, 2), 9);
        Expect.text(x, "AgA3");
        e.due("stated, no more", x.behind(0, 1), 255 - 8);
        e.due("paid", x.behind(0, 2), 1);
        e.due("gates", x.behind(0, 5), 1);
        e.due("flags", x.behind(0, 6), 2);
        Expect.text(x, "BfBs");
        e.due("nothing is owed", x.judge(1), 5);
        x.likes(3, 0, 2);
        Expect.text(x, "DfDsDg");
        e.due("paid by what it likes", x.behind(3, 2), 2);
        e.due("flags", x.behind(3, 6), 1);
        e.due("sheets", x.behind(3, 7), 1);
        Expect.text(x, "Ag");
        e.due("no less than nothing", x.behind(0, 2), 0);
    }

    private static void theWind(Expect e) {
        ToupeeWind x = new ToupeeWind();
        for (int w = 0; w < 6; w++) {
            x.walker(w, 11, 255, 0);
        }
        x.walker(5, 11, 0, 0);
        x.wind(10, 0, 1);
        Expect.text(x, ".");
        e.due("from 10 up: then(0)", x.then(0), 11);
        e.due("from 10 up: the way", x.then(1), 0);
        e.due("at the last one, it lies there", x.behind(5, 4), 11);
        x.wind(11, 0, 1);
        x.walker(5, 10, 0, 0);
        Expect.text(x, ".");
        e.due("from 11 up: then(0)", x.then(0), 10);
        e.due("from 11 up: the way", x.then(1), 1);
        e.due("it lies on the way", x.behind(5, 4), 9);
        x.wind(0, 1, 1);
        x.walker(5, 1, 0, 0);
        Expect.text(x, ".");
        e.due("from 0 down: then(0)", x.then(0), 1);
        e.due("from 0 down: the way", x.then(1), 0);
        e.due("it lies on the way", x.behind(5, 4), 2);
        x.wind(1, 1, 1);
        x.walker(5, 0, 0, 0);
        Expect.text(x, ".");
        e.due("at the first one, it lies there", x.behind(5, 4), 0);
        // It turns within the hour; who has his off has no more to lose.
        x.wind(9, 0, 5);
        x.walker(5, 10, 0, 0);
        Expect.text(x, ".");
        e.due("from 9, five times: then(0)", x.then(0), 8);
        e.due("from 9, five times: the way", x.then(1), 1);
        e.due("taken once, on the way up", x.behind(5, 4), 11);
        e.due("taken once", x.then(6), 1);
        x.wind(10, 0, 1);
        Expect.text(x, "!.");
        e.due("a gale: the force", x.then(2), 2);
        e.due("a gale: then(0)", x.then(0), 10);
        e.due("a gale: taken on the way down", x.behind(5, 4), 9);
    }

    private static void hush(Expect e) {
        ToupeeWind x = new ToupeeWind();
        x.walker(0, 1, 2, 3);
        x.walker(2, 1, 0, 0);
        Expect.text(x, "A&C.");
        e.due("hushed", x.then(5), 1 << 0 | 1 << 2);
        e.due("B loses his", x.then(6), 1);
        e.due("B is who", x.then(8), 1);
        e.due("in act 1", x.then(7), 1);
        x.walker(0, 1, 2, 4);
        Expect.text(x, "A&C.");
        e.due("who owes 4 is not at peace", x.then(5), 0);
        e.due("all three lose theirs", x.then(6), 3);
        e.due("A is the first", x.then(8), 0);
        x.walker(0, 1, 1, 0);
        Expect.text(x, "A&C");
        e.due("at the hour that he stated", x.then(5), 1 << 0 | 1 << 2);
        Expect.text(x, "A&C.");
        e.due("not at the next one", x.then(5), 0);
        e.due("all three lose theirs", x.then(6), 3);
        Expect.text(x, "A&CA>A>");
        e.due("the held one goes along", x.behind(2, 0), 3);
        e.due("he goes", x.behind(0, 0), 3);
        e.due("he holds", x.behind(0, 3), 2);
        Expect.text(x, "A&CA>A|A<");
        e.due("whom he let go stays", x.behind(2, 0), 2);
        e.due("he goes", x.behind(0, 0), 1);
        e.due("he holds nobody", x.behind(0, 3), -6);
    }

    private static void lossesAreCounted(Expect e) {
        ToupeeWind x = new ToupeeWind();
        x.wind(0, 0, 1);
        Expect.text(x, "B2A0.A0B>B^.C>C^..");
        e.due("losses by acts", x.then(6), 5);
        e.due("the first act", x.then(7), 2);
        e.due("the first one", x.then(8), 1);
        e.due("B keeps his at hour 2", x.behind(1, 4), -6);
        e.due("C lost his twice", x.behind(2, 4), 4);
        Expect.text(x, "A>A<!");
        e.due("nobody lost his", x.then(6), 0);
        e.due("no act", x.then(7), -6);
        e.due("nobody", x.then(8), -6);
    }

    private static void doneOrNot(Expect e) {
        ToupeeWind x = new ToupeeWind();
        e.due("done() of nothing", x.done(), 0);
        Expect.text(x, "A>!.");
        e.due("behind(0, 0)", x.behind(0, 0), 1);
        e.due("not done: told(10)", x.told(10), 0);
        e.due("not done: told(0)", x.told(0), 4);
        e.due("done()", x.done(), 3);
        e.due("told(0)", x.told(0), 0);
        e.due("told(10)", x.told(10), 1);
        e.due("told(3)", x.told(3), 2);
        e.due("told(4)", x.told(4), 1);
        e.due("told(1)", x.told(1), 2);
        e.due("told(7)", x.told(7), 7);
        e.due("losses are of the text alone", x.then(6), 0);
        e.due("then(0)", x.then(0), 2);
    }

    /** It takes more calls than an object is promised for; this one is not less careful behind them. */
    private static void lastHour(Expect e) {
        ToupeeWind x = new ToupeeWind();
        String fifty = ".".repeat(50);
        for (int n = 0; n < 15; n++) {
            e.due("fifty hours", Expect.text(x, fifty).done(), 50);
        }
        Expect.text(x, fifty);
        e.due("the last one can not be: judge(0)", x.judge(0), 49);
        e.due("the last one can not be: judge(1)", x.judge(1), 9);
        e.due("done()", Expect.text(x, fifty.substring(1)).done(), 49);
        e.due("the hour", x.told(4), 7);
        e.due("the day", x.told(5), 99);
        judged(e, x, ".", 0, 9);
        e.holds("a year leaves its hours out", x.year(0, 99, 1) >= 0);
    }
}
