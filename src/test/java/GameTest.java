/** Promises 1 to 5: a new object, and the calls that go on with the game. */
public final class GameTest {
    private static final Check check = new Check();
    private static final int BAR = Boards.BAR;
    private static final int OFF = Boards.OFF;

    public static void main(String[] args) {
        newObject();
        roll();
        rollWrong();
        step();
        stepHits();
        stepFromBar();
        stepWins();
        stepWrong();
        endTurn();
        carry();
        carryWrong();
        check.end("GameTest");
    }

    private static void newObject() {
        MagpieRuns x = new MagpieRuns();
        int[] begin = {2, 0, 0, 0, 2, 0, 0, 2, 0, 0, 0, 0, 0, 0, 0, 0};
        for (int point = 0; point < 16; point++) {
            check.is("new piecesOn(0, " + point + ")", x.piecesOn(0, point), begin[point]);
            check.is("new piecesOn(1, " + point + ")", x.piecesOn(1, point), begin[15 - point]);
        }
        for (int player = 0; player < 2; player++) {
            check.is("new score", x.score(player), 0);
            check.is("new hits", x.hits(player), 0);
            check.is("new onBar", x.onBar(player), 0);
            check.is("new borneOff", x.borneOff(player), 0);
        }
        check.is("new mover", x.mover(), 0);
        check.is("new phase", x.phase(), 0);
        check.is("new stake", x.stake(), 1);
        check.is("new cubeOf", x.cubeOf(), -1);
        check.is("new savedStates", x.savedStates(), 0);
        check.is("new hasStopped", x.hasStopped(), false);
        check.raises("new restore()", x, Check.STATE, x::restore);
        check.is("new clearBuffer", x.clearBuffer(), 0);
    }

    private static void roll() {
        MagpieRuns x = new MagpieRuns();
        check.is("roll(6, 1)", x.roll(6, 1), 2);
        check.is("phase behind a roll", x.phase(), 1);
        check.is("dieLeft(0) of 6, 1", x.dieLeft(0), 6);
        check.is("dieLeft(1) of 6, 1", x.dieLeft(1), 1);
        check.is("savedStates behind a roll", x.savedStates(), 1);
        check.is("undo of a roll", x.undo(), 0);
        check.is("diceLeft behind undo", x.diceLeft(), 0);
        check.is("roll(1, 6)", x.roll(1, 6), 2);
        check.is("dieLeft(0) of 1, 6", x.dieLeft(0), 1);
        x.undo();
        check.is("roll(6, 6)", x.roll(6, 6), 4);
        check.is("dieLeft(3) of 6, 6", x.dieLeft(3), 6);
        x.undo();
        check.is("roll(1, 1)", x.roll(1, 1), 4);
    }

    private static void rollWrong() {
        MagpieRuns x = new MagpieRuns();
        int[][] wrong = {{0, 1}, {7, 1}, {1, 0}, {1, 7}, {-1, -1}, {Integer.MAX_VALUE, 1},
            {1, Integer.MIN_VALUE}};
        for (int[] dice : wrong) {
            check.raises("roll of wrong dice", x, Check.ARGUMENT, () -> x.roll(dice[0], dice[1]));
        }
        x.offer();
        check.raises("roll behind an offer", x, Check.STATE, () -> x.roll(1, 2));
        check.raises("roll(0, 1) behind an offer", x, Check.ARGUMENT, () -> x.roll(0, 1));
        x.take();
        check.is("roll behind taking", x.roll(2, 1), 2);
        check.raises("a second roll", x, Check.STATE, () -> x.roll(1, 2));
        check.raises("a second roll(1, 7)", x, Check.ARGUMENT, () -> x.roll(1, 7));
        x.step(0, 2);
        x.step(0, 1);
        check.raises("roll with all dice used", x, Check.STATE, () -> x.roll(1, 2));
        x.endTurn();
        x.offer();
        x.drop();
        check.raises("roll with the game over", x, Check.STATE, () -> x.roll(1, 2));
    }

    private static void step() {
        MagpieRuns x = new MagpieRuns();
        x.roll(3, 1);
        check.is("step(4, 3)", x.step(4, 3), false);
        check.is("piecesOn(0, 4)", x.piecesOn(0, 4), 1);
        check.is("piecesOn(0, 7)", x.piecesOn(0, 7), 3);
        check.is("diceLeft", x.diceLeft(), 1);
        check.is("dieLeft(0)", x.dieLeft(0), 1);
        check.is("savedStates behind a step", x.savedStates(), 2);
        check.is("step(0, 1)", x.step(0, 1), false);
        check.is("diceLeft", x.diceLeft(), 0);
        check.is("phase without dice", x.phase(), 1);
        x.endTurn();
        x.roll(2, 2);
        check.is("player 1 goes down", x.step(11, 2), false);
        check.is("piecesOn(1, 9)", x.piecesOn(1, 9), 1);
        check.is("three dice of four", x.diceLeft(), 3);
        check.is("undo of a step", x.undo(), 4);
        check.is("four dice again", x.diceLeft(), 4);
        check.is("piecesOn(1, 11)", x.piecesOn(1, 11), 2);
        x.undo();
        x.roll(1, 3);
        x.step(11, 3);
        check.is("the die left is the first", x.dieLeft(0), 1);
    }

    private static void stepHits() {
        MagpieRuns x = Boards.with(Boards.at(0, 0, 4, 4, 7, 7), Boards.at(15, 15, 11, 11, 8, 9));
        x.roll(1, 2);
        check.is("step(7, 1) hits", x.step(7, 1), true);
        check.is("onBar(1)", x.onBar(1), 1);
        check.is("hits(1)", x.hits(1), 1);
        check.is("hits(0)", x.hits(0), 0);
        check.is("piecesOn(1, 8)", x.piecesOn(1, 8), 0);
        check.is("piecesOn(0, 8)", x.piecesOn(0, 8), 1);
        check.is("step(7, 2) hits", x.step(7, 2), true);
        check.is("onBar(1)", x.onBar(1), 2);
        check.is("hits(1)", x.hits(1), 2);
        check.is("pips(1)", x.pips(1), 16 + 16 + 12 + 12 + 17 + 17);
        x.endTurn();
        x.roll(6, 6);
        check.is("player 1 enters", x.step(BAR, 6), false);
        check.is("piecesOn(1, 10)", x.piecesOn(1, 10), 1);
    }

    private static void stepFromBar() {
        MagpieRuns x = Boards.with(Boards.at(BAR, BAR, 4, 4, 7, 7), Boards.at(15, 15, 11, 11, 8, 2));
        x.roll(3, 1);
        check.is("step(-1, 3) hits", x.step(BAR, 3), true);
        check.is("piecesOn(0, 2)", x.piecesOn(0, 2), 1);
        check.is("step(-1, 1)", x.step(BAR, 1), false);
        check.is("piecesOn(0, 0)", x.piecesOn(0, 0), 1);
        check.is("onBar(0)", x.onBar(0), 0);
    }

    private static void stepWins() {
        MagpieRuns x = Boards.with(Boards.at(15, OFF, OFF, OFF, OFF, OFF),
                Boards.at(0, 0, 1, 1, 2, 3));
        x.roll(2, 2);
        check.is("the last step", x.step(15, 2), false);
        check.is("phase", x.phase(), 3);
        check.is("no dice are left", x.diceLeft(), 0);
        check.is("the stake twice", x.score(0), 2);
        check.is("the mover stays", x.mover(), 0);
        check.is("borneOff(0)", x.borneOff(0), 6);
        check.is("lead with all off", x.lead(), 1.0);
        x.newGame();
        check.is("the score stays", x.score(0), 2);

        MagpieRuns y = Boards.with(Boards.at(15, 14, OFF, OFF, OFF, OFF),
                Boards.at(0, 0, 1, 1, 2, OFF));
        y.offer();
        y.take();
        y.roll(1, 2);
        y.step(14, 2);
        check.is("not over yet", y.phase(), 1);
        y.step(15, 1);
        check.is("the stake once", y.score(0), 2);
        check.is("score(1)", y.score(1), 0);

        MagpieRuns z = Boards.with(Boards.at(15, 15, 15, 15, 15, 15), Boards.at(0, OFF, OFF, OFF, OFF, OFF));
        z.roll(1, 1);
        for (int i = 0; i < 4; i++) {
            z.step(15, 1);
        }
        check.is("the turn ends", z.endTurn(), 1);
        z.roll(5, 1);
        z.step(0, 5);
        check.is("player 1 wins", z.score(1), 1);
        check.is("score(0)", z.score(0), 0);
        check.is("the loser begins", z.newGame(), 0);
    }

    private static void stepWrong() {
        MagpieRuns x = new MagpieRuns();
        for (int from : new int[] {-2, 16, Integer.MIN_VALUE, Integer.MAX_VALUE}) {
            check.raises("step from " + from, x, Check.BOUNDS, () -> x.step(from, 1));
            check.raises("step from " + from + " by 7", x, Check.BOUNDS, () -> x.step(from, 7));
        }
        for (int die : new int[] {0, 7, Integer.MIN_VALUE, Integer.MAX_VALUE}) {
            check.raises("step by " + die, x, Check.ARGUMENT, () -> x.step(0, die));
        }
        check.raises("step ahead of a roll", x, Check.STATE, () -> x.step(0, 1));
        x.roll(3, 1);
        check.raises("step(0, 0)", x, Check.ARGUMENT, () -> x.step(0, 0));
        check.raises("step by a die not left", x, Check.STATE, () -> x.step(0, 2));
        check.raises("step from an empty point", x, Check.STATE, () -> x.step(1, 1));
        check.raises("step from the empty bar", x, Check.STATE, () -> x.step(BAR, 1));
        check.raises("step of the other one", x, Check.STATE, () -> x.step(15, 1));
        check.raises("step onto a block", x, Check.STATE, () -> x.step(7, 1));
        MagpieRuns y = Boards.with(Boards.at(12, 14, 15, 15, 15, 15), Boards.at(0, 1, 2, 3, 3, 3));
        y.roll(3, 3);
        check.raises("step off ahead of its turn", y, Check.STATE, () -> y.step(14, 3));
    }

    private static void endTurn() {
        MagpieRuns x = new MagpieRuns();
        check.raises("endTurn ahead of a roll", x, Check.STATE, x::endTurn);
        x.offer();
        check.raises("endTurn behind an offer", x, Check.STATE, x::endTurn);
        x.take();
        x.roll(3, 1);
        check.raises("endTurn with steps", x, Check.STATE, x::endTurn);
        x.step(4, 3);
        check.raises("endTurn with a step", x, Check.STATE, x::endTurn);
        x.step(4, 1);
        int saved = x.savedStates();
        check.is("endTurn", x.endTurn(), 1);
        check.is("mover", x.mover(), 1);
        check.is("phase", x.phase(), 0);
        check.is("endTurn is undoable", x.savedStates(), saved + 1 > 5 ? 5 : saved + 1);
        check.is("undo", x.undo(), 4);
        check.is("mover again", x.mover(), 0);
        check.is("phase again", x.phase(), 1);
        MagpieRuns y = Boards.with(Boards.at(BAR, 8, 8, 9, 9, 12), Boards.at(5, 5, 4, 4, 15, 15));
        y.roll(6, 5);
        check.is("dice are left", y.diceLeft(), 2);
        check.is("endTurn without steps", y.endTurn(), 1);
        check.is("no dice are left", y.diceLeft(), 0);
        y.offer();
        y.drop();
        check.raises("endTurn with the game over", y, Check.STATE, y::endTurn);
        check.is("newGame", y.newGame(), 0);
        y.roll(2, 1);
        y.step(0, 2);
        y.step(0, 1);
        y.endTurn();
        y.roll(1, 2);
        y.step(15, 1);
        y.step(14, 2);
        check.is("the turn comes back", y.endTurn(), 0);
    }

    private static void carry() {
        MagpieRuns x = new MagpieRuns();
        check.is("carry(0, 0, 1)", x.carry(0, 0, 1), 73);
        check.is("carry(1, 15, -1)", x.carry(1, 15, BAR), 75);
        check.is("carry(1, -1, 16)", x.carry(1, BAR, OFF), 58);
        check.is("carry(1, 16, 3)", x.carry(1, OFF, 3), 62);
        check.is("piecesOn(1, 3)", x.piecesOn(1, 3), 1);
        check.is("carry(1, 3, 3)", x.carry(1, 3, 3), 62);
        check.is("savedStates", x.savedStates(), 5);
        check.is("undo of nothing", x.undo(), 4);
        check.is("piecesOn(1, 3)", x.piecesOn(1, 3), 1);
        x.undo();
        check.is("borneOff(1)", x.borneOff(1), 1);
        check.is("carry(1, 16, 16)", x.carry(1, OFF, OFF), 58);
        check.is("carry off", x.carry(0, 7, OFF), 64);
        check.is("nothing is hit", x.hits(0) + x.hits(1), 0);
        check.is("mover", x.mover(), 0);
        check.is("phase", x.phase(), 0);
    }

    private static void carryWrong() {
        MagpieRuns x = new MagpieRuns();
        int[][] wrong = {{2, 0, 1}, {-1, 0, 1}, {0, -2, 1}, {0, 17, 1}, {0, 0, -2}, {0, 0, 17},
            {Integer.MAX_VALUE, 0, 1}, {0, Integer.MIN_VALUE, 1}, {1, 15, Integer.MAX_VALUE}};
        for (int[] a : wrong) {
            check.raises("carry of wrong places", x, Check.BOUNDS, () -> x.carry(a[0], a[1], a[2]));
        }
        check.raises("carry from an empty point", x, Check.STATE, () -> x.carry(0, 1, 2));
        check.raises("carry from the empty bar", x, Check.STATE, () -> x.carry(0, BAR, 2));
        check.raises("carry from off", x, Check.STATE, () -> x.carry(1, OFF, 2));
        check.raises("carry of the other's piece", x, Check.STATE, () -> x.carry(1, 0, 2));
        check.raises("carry onto the other's", x, Check.STATE, () -> x.carry(0, 0, 8));
        x.carry(1, 8, 9);
        check.raises("carry onto the other's blot", x, Check.STATE, () -> x.carry(0, 0, 9));
        MagpieRuns y = Boards.with(Boards.at(15, OFF, OFF, OFF, OFF, OFF), Boards.at(0, 0, 1, 1, 2, 3));
        check.raises("carry of the last piece off", y, Check.STATE, () -> y.carry(0, 15, OFF));
        check.is("carry of the last piece", y.carry(0, 15, 14), 2);
        check.is("carry off to off", y.carry(0, OFF, OFF), 2);
        x.roll(1, 2);
        check.raises("carry behind a roll", x, Check.STATE, () -> x.carry(0, 0, 1));
        check.raises("wrong carry behind a roll", x, Check.BOUNDS, () -> x.carry(2, 0, 1));
        y.offer();
        check.raises("carry behind an offer", y, Check.STATE, () -> y.carry(0, 14, 13));
        y.drop();
        check.raises("carry with the game over", y, Check.STATE, () -> y.carry(0, 14, 13));
    }
}
