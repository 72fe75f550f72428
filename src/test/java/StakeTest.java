/** Promises 6 to 9: the stake that is doubled, taken or dropped, and new games. */
public final class StakeTest {
    private static final Check check = new Check();

    public static void main(String[] args) {
        offerAndTake();
        offerWrong();
        stakeGrows();
        drop();
        takeAndDropWrong();
        newGame();
        check.end("StakeTest");
    }

    private static void offerAndTake() {
        MagpieRuns x = new MagpieRuns();
        check.is("offer()", x.offer(), 2);
        check.is("phase", x.phase(), 2);
        check.is("stake while offered", x.stake(), 1);
        check.is("cubeOf while offered", x.cubeOf(), -1);
        check.is("mover while offered", x.mover(), 0);
        check.is("offer is undoable", x.savedStates(), 1);
        check.is("take()", x.take(), 2);
        check.is("phase", x.phase(), 0);
        check.is("stake", x.stake(), 2);
        check.is("the other one has the cube", x.cubeOf(), 1);
        check.is("the mover goes on", x.mover(), 0);
        check.is("take is undoable", x.savedStates(), 2);
        check.is("undo of take", x.undo(), 1);
        check.is("phase", x.phase(), 2);
        check.is("stake", x.stake(), 1);
        check.is("cubeOf", x.cubeOf(), -1);
        check.is("undo of offer", x.undo(), 0);
        check.is("phase", x.phase(), 0);
    }

    private static void offerWrong() {
        MagpieRuns x = new MagpieRuns();
        x.offer();
        check.raises("offer twice", x, Check.STATE, x::offer);
        x.take();
        check.raises("offer without the cube", x, Check.STATE, x::offer);
        x.roll(2, 1);
        check.raises("offer behind a roll", x, Check.STATE, x::offer);
        x.step(0, 2);
        x.step(0, 1);
        check.raises("offer at the end of a turn", x, Check.STATE, x::offer);
        x.endTurn();
        check.is("offer with the cube", x.offer(), 4);
        x.drop();
        check.raises("offer with the game over", x, Check.STATE, x::offer);
    }

    private static void stakeGrows() {
        MagpieRuns x = new MagpieRuns();
        for (int stake = 2; stake <= 64; stake *= 2) {
            check.is("offer of " + stake, x.offer(), stake);
            check.is("take of " + stake, x.take(), stake);
            Boards.passTurn(x);
        }
        check.is("cube at the mover", x.cubeOf(), x.mover());
        check.raises("offer at a stake of 64", x, Check.STATE, x::offer);
    }

    private static void drop() {
        MagpieRuns x = new MagpieRuns();
        x.offer();
        check.is("drop()", x.drop(), 1);
        check.is("score(0)", x.score(0), 1);
        check.is("score(1)", x.score(1), 0);
        check.is("phase", x.phase(), 3);
        check.is("stake stays", x.stake(), 1);
        check.is("mover stays", x.mover(), 0);
        check.is("drop is undoable", x.savedStates(), 2);
        x.undo();
        check.is("undo of drop", x.score(0), 0);
        check.is("phase", x.phase(), 2);
        x.take();
        Boards.passTurn(x);
        x.offer();
        check.is("drop of the stake as it was", x.drop(), 2);
        check.is("score(1)", x.score(1), 2);
        x.newGame();
        x.offer();
        check.is("drop in the next game", x.drop(), 1);
        x.newGame();
        Boards.passTurn(x);
        x.offer();
        check.is("scores are added", x.drop(), 2);
    }

    private static void takeAndDropWrong() {
        MagpieRuns x = new MagpieRuns();
        check.raises("take without an offer", x, Check.STATE, x::take);
        check.raises("drop without an offer", x, Check.STATE, x::drop);
        x.roll(1, 2);
        check.raises("take behind a roll", x, Check.STATE, x::take);
        check.raises("drop behind a roll", x, Check.STATE, x::drop);
        MagpieRuns y = new MagpieRuns();
        y.offer();
        y.take();
        check.raises("take twice", y, Check.STATE, y::take);
        check.raises("drop behind taking", y, Check.STATE, y::drop);
        MagpieRuns z = new MagpieRuns();
        z.offer();
        z.drop();
        check.raises("take with the game over", z, Check.STATE, z::take);
        check.raises("drop twice", z, Check.STATE, z::drop);
    }

    private static void newGame() {
        MagpieRuns x = Boards.with(Boards.at(0, 0, 4, 4, 7, 7), Boards.at(15, 15, 11, 11, 8, 9));
        check.raises("newGame ahead of a roll", x, Check.STATE, x::newGame);
        x.roll(1, 2);
        check.raises("newGame behind a roll", x, Check.STATE, x::newGame);
        x.step(7, 1);
        x.step(7, 2);
        x.endTurn();
        x.offer();
        check.raises("newGame behind an offer", x, Check.STATE, x::newGame);
        x.take();
        x.roll(4, 3);
        x.step(-1, 4);
        x.step(-1, 3);
        x.endTurn();
        x.offer();
        x.drop();
        check.is("newGame()", x.newGame(), 1);
        check.is("mover", x.mover(), 1);
        check.is("phase", x.phase(), 0);
        check.is("diceLeft", x.diceLeft(), 0);
        check.is("stake", x.stake(), 1);
        check.is("cubeOf", x.cubeOf(), -1);
        check.is("pips(0)", x.pips(0), 74);
        check.is("pips(1)", x.pips(1), 74);
        check.is("onBar(1)", x.onBar(1), 0);
        check.is("piecesOn(1, 8)", x.piecesOn(1, 8), 2);
        check.is("scores stay", x.score(0), 2);
        check.is("hits stay", x.hits(1), 2);
        check.is("newGame is undoable", x.undo(), 4);
        check.is("over again", x.phase(), 3);
        check.is("stake as it was", x.stake(), 2);
        check.is("cube as it was", x.cubeOf(), 0);
    }
}
