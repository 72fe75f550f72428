/** Promises 39 to 45: what would be, and the digest. */
public final class WhatIfTest {
    private static final Check check = new Check();
    private static final int BAR = Boards.BAR;
    private static final int OFF = Boards.OFF;

    public static void main(String[] args) {
        playsWith();
        playsWithWrong();
        shots();
        shotsFromBar();
        shotsOfBoth();
        shotsWrong();
        entering();
        blotsBehind();
        blotsBehindWrong();
        lead();
        digest();
        digestByItsList();
        check.end("WhatIfTest");
    }

    private static void playsWith() {
        MagpieRuns x = new MagpieRuns();
        check.is("playsWith(6, 5)", x.playsWith(6, 5), 9);
        check.is("playsWith(5, 6)", x.playsWith(5, 6), 9);
        check.is("playsWith(3, 3)", x.playsWith(3, 3), 24);
        check.is("playsWith(4, 4)", x.playsWith(4, 4), 1);
        x.roll(4, 4);
        check.is("playsWith behind a roll", x.playsWith(6, 5), 9);
        check.is("diceLeft", x.diceLeft(), 4);
        MagpieRuns y = Boards.with(Boards.at(0, 5, 10, OFF, OFF, OFF), Boards.at(BAR, BAR, 15, 15, 14, 14));
        check.is("playsWith(1, 1)", y.playsWith(1, 1), 14);
        check.is("playsWith(1, 2)", y.playsWith(1, 2), 9);
        y.offer();
        check.is("playsWith behind an offer", y.playsWith(1, 1), 14);
        y.drop();
        check.is("playsWith with the game over", y.playsWith(1, 1), 14);
        MagpieRuns z = Boards.with(Boards.at(15, OFF, OFF, OFF, OFF, OFF), Boards.at(BAR, BAR, 4, 4, 5, 5));
        check.is("playsWith to the end", z.playsWith(6, 5), 1);
        z.roll(6, 6);
        z.step(15, 6);
        check.is("playsWith of no pieces", z.playsWith(6, 5), 1);
        MagpieRuns w = Boards.with(Boards.at(BAR, 8, 8, 9, 9, 12), Boards.at(5, 5, 4, 4, 15, 15));
        check.is("playsWith without a step", w.playsWith(5, 6), 1);
    }

    private static void playsWithWrong() {
        MagpieRuns x = new MagpieRuns();
        int[][] wrong = {{0, 1}, {7, 1}, {1, 0}, {1, 7}, {Integer.MAX_VALUE, 1}, {1, Integer.MIN_VALUE}};
        for (int[] dice : wrong) {
            check.raises("playsWith of wrong dice", x, Check.ARGUMENT, () -> x.playsWith(dice[0], dice[1]));
        }
    }

    private static void shot(MagpieRuns x, int point, int due) {
        check.is("shots(" + point + ")", x.shots(point), due);
        check.is("shotsByKinds(" + point + ")", x.shotsByKinds(point), due);
    }

    private static void shots() {
        int[] one = Boards.at(0, 15, 15, 15, 15, 15);
        MagpieRuns x = Boards.with(one, Boards.at(6, 8, 8, 8, 8, 8));
        shot(x, 6, 11 + 4 + 1 + 1);
        shot(x, 8, 0);
        shot(x, 7, 0);
        shot(x, 15, 0);
        x.roll(1, 2);
        shot(x, 6, 17);
        shot(Boards.with(one, Boards.at(6, 4, 4, 8, 8, 8)), 6, 16);
        shot(Boards.with(one, Boards.at(6, 4, 4, 2, 2, 8)), 6, 11 + 2 + 1);
        shot(Boards.with(one, Boards.at(6, 4, 4, 2, 2, 8)), 8, 4);
        shot(Boards.with(one, Boards.at(12, 10, 10, 8, 8, 8)), 12, 1 + 1);
        shot(Boards.with(one, Boards.at(1, 8, 8, 8, 8, 8)), 1, 11);
        shot(Boards.with(one, Boards.at(7, 8, 8, 8, 8, 8)), 7, 6);
        shot(Boards.with(Boards.at(6, 9, 9, 9, 9, 9), Boards.at(5, 8, 8, 8, 8, 8)), 5, 0);
        shot(Boards.with(Boards.at(0, 1, 15, 15, 15, 15), Boards.at(6, 8, 8, 8, 8, 8)), 6,
                20 + 2 + 1 + 1 + 4);
    }

    private static void shotsFromBar() {
        shot(Boards.with(Boards.at(BAR, 15, 15, 15, 15, 15), Boards.at(2, 8, 8, 8, 8, 8)), 2, 11 + 2 + 1);
        shot(Boards.with(Boards.at(BAR, BAR, 15, 15, 15, 15), Boards.at(2, 8, 8, 8, 8, 8)), 2, 11 + 1);
        shot(Boards.with(Boards.at(BAR, BAR, BAR, 15, 15, 15), Boards.at(2, 8, 8, 8, 8, 8)), 2, 11);
        shot(Boards.with(Boards.at(BAR, 4, 15, 15, 15, 15), Boards.at(6, 0, 0, 1, 1, 9)), 6, 8 + 4);
        shot(Boards.with(Boards.at(BAR, BAR, BAR, BAR, BAR, 4), Boards.at(5, 0, 0, 8, 8, 9)), 5, 11);
        shot(Boards.with(Boards.at(BAR, 15, 15, 15, 15, 15), Boards.at(2, 1, 8, 8, 8, 8)), 1, 11 + 1);
    }

    private static void shotsOfBoth() {
        MagpieRuns x = Boards.with(Boards.at(9, 12, 12, 12, 12, 12), Boards.at(15, 0, 0, 0, 0, 0));
        shot(x, 9, 11 + 4 + 1);
        shot(x, 15, 20 + 2 + 1 + 4 + 1);
        x.roll(2, 1);
        x.step(9, 2);
        x.step(12, 1);
        x.endTurn();
        shot(x, 11, 11 + 2 + 1);
        shot(x, 13, 11 + 1);
        shot(x, 15, 27 + 1);
        shot(x, 12, 0);
        shot(x, 0, 0);
        shot(Boards.with(Boards.at(13, 9, 9, 9, 9, 9), Boards.at(BAR, 0, 0, 0, 0, 0)), 13, 11 + 2 + 1);
    }

    private static void shotsWrong() {
        MagpieRuns x = new MagpieRuns();
        for (int point : new int[] {-1, 16, Integer.MIN_VALUE, Integer.MAX_VALUE}) {
            check.raises("shots(" + point + ")", x, Check.BOUNDS, () -> x.shots(point));
            check.raises("shotsByKinds(" + point + ")", x, Check.BOUNDS, () -> x.shotsByKinds(point));
        }
    }

    private static void entering() {
        MagpieRuns x = Boards.with(Boards.at(15, 14, 14, 13, 13, 10), Boards.at(0, 0, 1, 1, 5, 6));
        check.is("entering(0)", x.entering(0), 36 - 4);
        check.is("entering(1)", x.entering(1), 36 - 4);
        MagpieRuns y = Boards.with(Boards.at(15, 15, 12, 12, 10, 10), Boards.at(0, 1, 2, 3, 4, 5));
        check.is("blots do not close", y.entering(0), 36);
        check.is("three are closed", y.entering(1), 36 - 9);
        MagpieRuns z = Boards.with(Boards.at(BAR, BAR, 9, 9, 15, 15), Boards.at(5, 5, 6, 6, BAR, BAR));
        check.is("the sixth is closed", z.entering(0), 36 - 1);
        check.is("the seventh does not count", z.entering(1), 36 - 1);
        MagpieRuns w = new MagpieRuns();
        check.is("own blocks do not close", w.entering(0), 36);
    }

    private static void blotsBehind() {
        MagpieRuns x = Boards.with(Boards.at(0, 0, 4, 4, 7, BAR), Boards.at(15, 15, 11, 11, 8, 8));
        x.roll(1, 5);
        check.is("onto a point of its own", x.blotsBehind(BAR, 1), 1);
        check.is("onto a block of its own", x.blotsBehind(BAR, 5), 1);
        x.step(BAR, 5);
        check.is("of three", x.blotsBehind(4, 1), 2);
        check.is("of two", x.blotsBehind(0, 1), 3);
        check.is("nothing is changed", x.blots(0), 1);
        MagpieRuns y = Boards.with(Boards.at(0, 1, 4, 4, 7, 7), Boards.at(15, 15, 11, 11, 9, 8));
        y.roll(1, 2);
        check.is("two blots to a block", y.blotsBehind(0, 1), 0);
        check.is("onto a blot of the other", y.blotsBehind(7, 1), 4);
        MagpieRuns z = Boards.with(Boards.at(12, 15, 15, 15, OFF, OFF), Boards.at(0, 0, 1, 1, 2, 3));
        z.roll(4, 1);
        check.is("off", z.blotsBehind(12, 4), 0);
        check.is("a step of a piece of three", z.blotsBehind(12, 1), 1);
    }

    private static void blotsBehindWrong() {
        MagpieRuns x = new MagpieRuns();
        check.raises("blotsBehind(-2, 0)", x, Check.BOUNDS, () -> x.blotsBehind(-2, 0));
        check.raises("blotsBehind(16, 1)", x, Check.BOUNDS, () -> x.blotsBehind(16, 1));
        check.raises("blotsBehind(0, 0)", x, Check.ARGUMENT, () -> x.blotsBehind(0, 0));
        check.raises("blotsBehind(0, 7)", x, Check.ARGUMENT, () -> x.blotsBehind(0, 7));
        check.raises("blotsBehind ahead of a roll", x, Check.STATE, () -> x.blotsBehind(0, 1));
        MagpieRuns y = Boards.with(Boards.at(0, 13, 15, 15, 15, 15), Boards.at(1, 1, 3, 3, 5, 5));
        y.roll(2, 1);
        check.raises("blotsBehind a step of reason 6", y, Check.STATE, () -> y.blotsBehind(13, 2));
        check.raises("blotsBehind a step of reason 4", y, Check.STATE, () -> y.blotsBehind(0, 1));
    }

    private static void lead() {
        MagpieRuns x = new MagpieRuns();
        check.is("lead()", x.lead(), 0.5);
        x.carry(0, 0, 12);
        check.is("lead of the mover", x.lead(), 74.0 / 136.0);
        x.roll(2, 1);
        x.step(0, 2);
        x.step(2, 1);
        x.endTurn();
        check.is("lead of the other one", x.lead(), 59.0 / 133.0);
    }

    private static void digest() {
        MagpieRuns x = new MagpieRuns();
        long before = x.digest();
        check.is("digest twice", x.digest(), before);
        check.is("digest saves nothing", x.savedStates(), 0);
        check.is("digest of another object", new MagpieRuns().digest(), before);
        x.append('e');
        check.is("the buffer is in the digest", x.digest() != before, true);
        x.clearBuffer();
        check.is("digest behind clearing", x.digest(), before);
        x.carry(0, 0, 0);
        check.is("savedStates are in the digest", x.digest() != before, true);
        x.undo();
        x.keep();
        check.is("the snapshot is not in the digest", x.digest(), before);
        Boards.play(x, "e");
        long stopped = x.digest();
        x.undo();
        Boards.play(x, "x;d;n;e");
        x.undo();
        check.is("the stop is in the digest", stopped != before, true);
    }

    private static void digestByItsList() {
        MagpieRuns x = new MagpieRuns();
        byItsList(x);
        x.roll(3, 1);
        byItsList(x);
        x.step(4, 3);
        byItsList(x);
        Boards.play(x, "m4.1;r12");
        byItsList(x);
        Boards.write(x, "r1!~");
        byItsList(x);
        x.endTurn();
        x.roll(6, 6);
        byItsList(x);
        MagpieRuns y = Boards.with(Boards.at(BAR, 0, 5, 10, 15, OFF), Boards.at(2, 7, 7, 7, 8, 12));
        byItsList(y);
        y.roll(3, 2);
        y.step(BAR, 3);
        byItsList(y);
        y.undo();
        y.undo();
        y.offer();
        byItsList(y);
        y.drop();
        byItsList(y);
        MagpieRuns z = Boards.with(Boards.at(15, OFF, OFF, OFF, OFF, OFF), Boards.at(BAR, BAR, 4, 4, 5, 5));
        z.roll(6, 6);
        byItsList(z);
        z.step(15, 6);
        byItsList(z);
    }

    private static void byItsList(MagpieRuns x) {
        String text = textOf(x);
        check.is("digest with the text " + text, x.digest(), Digests.byItsList(x, text));
    }

    /** No call tells the buffer: the tests here know that it is empty, or the one text. */
    private static String textOf(MagpieRuns x) {
        int length = x.clearBuffer();
        String text = "r1!~".substring(0, length);
        Boards.write(x, text);
        return text;
    }
}
