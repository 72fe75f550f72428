/** Promises 34 to 38: steps that are possible, the reach, and plays. */
public final class StepsTest {
    private static final Check check = new Check();
    private static final int BAR = Boards.BAR;
    private static final int OFF = Boards.OFF;

    public static void main(String[] args) {
        reasonsOneToFour();
        reasonFive();
        reasonSixReach();
        reasonSixGreater();
        reasonSixFour();
        whyWrong();
        possibleSteps();
        reach();
        plays();
        playsWithHits();
        check.end("StepsTest");
    }

    private static void why(MagpieRuns x, int from, int die, int due) {
        check.is("whyNoStep(" + from + ", " + die + ")", x.whyNoStep(from, die), due);
        int blots = due == 0 ? x.blotsBehind(from, die) : 0;
        Object got = Check.outcome(() -> x.blotsBehind(from, die));
        check.is("blotsBehind", got, due == 0 ? (Object) blots : "throws.IllegalStateException");
    }

    private static void counts(MagpieRuns x, int possible, int reach, int plays) {
        check.is("possibleSteps()", x.possibleSteps(), possible);
        check.is("reach()", x.reach(), reach);
        check.is("plays()", x.plays(), plays);
        check.is("playsByOrders()", x.playsByOrders(), plays);
    }

    private static void reasonsOneToFour() {
        MagpieRuns x = new MagpieRuns();
        why(x, 0, 1, 1);
        x.offer();
        why(x, 0, 1, 1);
        x.take();
        x.roll(3, 1);
        why(x, 0, 3, 0);
        why(x, 0, 1, 0);
        why(x, 4, 3, 0);
        why(x, 4, 1, 0);
        why(x, 7, 3, 0);
        why(x, 7, 1, 4);
        why(x, 0, 2, 1);
        why(x, 5, 2, 1);
        why(x, 5, 1, 2);
        why(x, BAR, 1, 2);
        why(x, 8, 1, 2);
        x.step(0, 3);
        why(x, 0, 3, 1);
        why(x, 0, 1, 0);
        x.step(0, 1);
        why(x, 4, 1, 1);
        MagpieRuns y = Boards.with(Boards.at(BAR, 4, 4, 7, 7, 7), Boards.at(2, 2, 8, 8, 15, 15));
        y.roll(3, 1);
        why(y, BAR, 3, 4);
        why(y, BAR, 1, 0);
        why(y, 4, 1, 3);
        why(y, 7, 1, 3);
        why(y, 8, 1, 2);
        y.step(BAR, 1);
        why(y, 4, 3, 0);
        y.step(4, 3);
        y.endTurn();
        y.offer();
        y.drop();
        why(y, 15, 1, 1);
        MagpieRuns z = Boards.with(Boards.at(0, 0, 4, 4, 7, 7), Boards.at(BAR, 15, 15, 11, 11, 8));
        z.roll(1, 2);
        z.step(0, 1);
        z.step(0, 2);
        z.endTurn();
        z.roll(1, 5);
        why(z, BAR, 1, 0);
        why(z, BAR, 5, 0);
        why(z, 15, 1, 3);
        z.step(BAR, 5);
        why(z, 15, 1, 0);
        why(z, 8, 1, 4);
    }

    private static void reasonFive() {
        MagpieRuns x = Boards.with(Boards.at(12, 14, 15, 15, 15, 15), Boards.at(0, 1, 2, 3, 3, 3));
        x.roll(4, 3);
        why(x, 12, 4, 0);
        why(x, 14, 4, 5);
        why(x, 14, 3, 5);
        why(x, 15, 3, 5);
        why(x, 12, 3, 0);
        x.step(12, 4);
        why(x, 14, 3, 0);
        why(x, 15, 3, 5);
        MagpieRuns y = Boards.with(Boards.at(11, 12, 14, 15, 15, 15), Boards.at(0, 1, 2, 3, 3, 3));
        y.roll(5, 2);
        why(y, 11, 5, 5);
        why(y, 14, 2, 5);
        why(y, 12, 5, 5);
        why(y, 11, 2, 0);
        y.step(11, 2);
        why(y, 12, 5, 0);
        MagpieRuns z = Boards.with(Boards.at(15, 15, 14, 14, 13, 13), Boards.at(0, 1, 2, 3, 3, 4));
        z.roll(1, 2);
        z.step(15, 1);
        z.step(14, 2);
        z.endTurn();
        z.roll(4, 1);
        why(z, 3, 4, 5);
        why(z, 0, 1, 5);
        why(z, 4, 4, 0);
        z.step(4, 1);
        why(z, 3, 4, 0);
        why(z, 2, 4, 5);
    }

    private static void reasonSixReach() {
        MagpieRuns x = Boards.with(Boards.at(0, 13, 15, 15, 15, 15), Boards.at(1, 1, 3, 3, 5, 5));
        x.roll(2, 1);
        why(x, 13, 2, 6);
        why(x, 13, 1, 0);
        why(x, 0, 2, 0);
        why(x, 0, 1, 4);
        why(x, 15, 1, 5);
        counts(x, 2, 2, 1);
        check.raises("a step that wastes a die", x, Check.STATE, () -> x.step(13, 2));
        x.step(13, 1);
        why(x, 0, 2, 0);
        counts(x, 1, 1, 1);
    }

    private static void reasonSixGreater() {
        MagpieRuns x = Boards.with(Boards.at(0, 15, 15, 15, 15, 15), Boards.at(3, 3, 5, 5, 7, 7));
        x.roll(1, 2);
        why(x, 0, 1, 6);
        why(x, 0, 2, 0);
        counts(x, 1, 1, 1);
        x.step(0, 2);
        check.is("endTurn with a die left", x.endTurn(), 1);
        MagpieRuns y = Boards.with(Boards.at(0, 15, 15, 15, 15, 15), Boards.at(2, 2, 3, 3, 7, 7));
        y.roll(2, 1);
        why(y, 0, 1, 0);
        why(y, 0, 2, 4);
        counts(y, 1, 1, 1);
        MagpieRuns w = Boards.with(Boards.at(BAR, 15, 15, 15, 15, 15), Boards.at(2, 2, 5, 5, 7, 7));
        w.roll(2, 1);
        why(w, BAR, 1, 6);
        why(w, BAR, 2, 0);
        counts(w, 1, 1, 1);
        MagpieRuns z = Boards.with(Boards.at(15, OFF, OFF, OFF, OFF, OFF), Boards.at(2, 2, 3, 3, 7, 7));
        z.roll(6, 5);
        why(z, 15, 5, 6);
        why(z, 15, 6, 0);
        counts(z, 1, 1, 1);
    }

    /** Of four alike dice only three can be used, and only one piece goes so far. */
    private static void reasonSixFour() {
        MagpieRuns x = Boards.with(Boards.at(0, 1, 15, 15, 15, 15), Boards.at(4, 4, 7, 7, 9, 9));
        x.roll(2, 2);
        why(x, 1, 2, 0);
        why(x, 0, 2, 0);
        counts(x, 2, 3, 1);
        x.step(1, 2);
        x.step(3, 2);
        why(x, 5, 2, 4);
        counts(x, 1, 1, 1);
        x.step(0, 2);
        counts(x, 0, 0, 1);
        check.is("endTurn with a die left", x.endTurn(), 1);
    }

    private static void whyWrong() {
        MagpieRuns x = new MagpieRuns();
        for (int from : new int[] {-2, 16, Integer.MIN_VALUE, Integer.MAX_VALUE}) {
            check.raises("whyNoStep from " + from, x, Check.BOUNDS, () -> x.whyNoStep(from, 1));
            check.raises("whyNoStep from " + from, x, Check.BOUNDS, () -> x.whyNoStep(from, 0));
        }
        for (int die : new int[] {0, 7, Integer.MIN_VALUE, Integer.MAX_VALUE}) {
            check.raises("whyNoStep by " + die, x, Check.ARGUMENT, () -> x.whyNoStep(0, die));
        }
    }

    private static void possibleSteps() {
        MagpieRuns x = new MagpieRuns();
        counts(x, 0, 0, 1);
        x.roll(4, 4);
        counts(x, 1, 2, 1);
        x.undo();
        x.roll(3, 3);
        check.is("alike dice are one", x.possibleSteps(), 3);
        x.undo();
        x.offer();
        counts(x, 0, 0, 1);
        x.drop();
        counts(x, 0, 0, 1);
        MagpieRuns y = Boards.with(Boards.at(BAR, 4, 4, 7, 7, 7), Boards.at(2, 2, 8, 8, 15, 15));
        y.roll(3, 2);
        check.is("only from the bar", y.possibleSteps(), 1);
    }

    private static void reach() {
        MagpieRuns x = Boards.with(Boards.at(BAR, BAR, 4, 4, 7, 7), Boards.at(0, 0, 1, 1, 2, 2));
        x.roll(1, 3);
        counts(x, 0, 0, 1);
        x.endTurn();
        x.roll(2, 1);
        check.is("reach to off", x.reach(), 2);
        MagpieRuns y = Boards.with(Boards.at(14, 15, OFF, OFF, OFF, OFF), Boards.at(0, 0, 1, 1, 2, 2));
        y.roll(3, 3);
        counts(y, 1, 2, 1);
        MagpieRuns z = Boards.with(Boards.at(0, 1, 2, 3, 4, 5), Boards.at(OFF, OFF, OFF, OFF, OFF, 15));
        z.roll(1, 1);
        check.is("reach of four", z.reach(), 4);
        z.step(5, 1);
        check.is("reach of three", z.reach(), 3);
    }

    private static void plays() {
        MagpieRuns x = Boards.with(Boards.at(0, OFF, OFF, OFF, OFF, OFF), Boards.at(15, 15, 14, 14, 13, 13));
        x.roll(1, 2);
        counts(x, 2, 2, 1);
        MagpieRuns y = Boards.with(Boards.at(0, 3, OFF, OFF, OFF, OFF), Boards.at(15, 15, 14, 14, 13, 13));
        y.roll(1, 2);
        counts(y, 4, 2, 4);
        y.step(0, 1);
        counts(y, 2, 1, 2);
        y.step(1, 2);
        counts(y, 0, 0, 1);
        MagpieRuns z = Boards.with(Boards.at(0, 5, 10, OFF, OFF, OFF), Boards.at(OFF, OFF, OFF, OFF, OFF, BAR));
        z.roll(1, 1);
        counts(z, 3, 4, 15);
        z.step(5, 1);
        counts(z, 3, 3, 10);
        MagpieRuns v = Boards.with(Boards.at(BAR, 5, OFF, OFF, OFF, OFF), Boards.at(15, 15, 14, 14, 13, 13));
        v.roll(1, 3);
        counts(v, 2, 2, 3);
        MagpieRuns w = Boards.with(Boards.at(15, 12, OFF, OFF, OFF, OFF), Boards.at(0, 0, 1, 1, 2, 2));
        w.roll(2, 1);
        counts(w, 3, 2, 2);
    }

    /** Two rows of steps that end alike for the mover, but of which only one hits. */
    private static void playsWithHits() {
        MagpieRuns x = Boards.with(Boards.at(0, OFF, OFF, OFF, OFF, OFF), Boards.at(1, 15, 15, 14, 14, 14));
        x.roll(1, 2);
        counts(x, 2, 2, 2);
        MagpieRuns y = Boards.with(Boards.at(0, OFF, OFF, OFF, OFF, OFF), Boards.at(1, 2, 15, 15, 14, 14));
        y.roll(2, 1);
        counts(y, 2, 2, 2);
        MagpieRuns z = Boards.with(Boards.at(0, OFF, OFF, OFF, OFF, OFF), Boards.at(3, 15, 15, 14, 14, 14));
        z.roll(2, 1);
        counts(z, 2, 2, 1);
    }
}
