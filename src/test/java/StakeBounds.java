/** The sentences on the stake, and the promises 6 to 9. */
final class StakeBounds {
    private static final int BAR = Boards.BAR;
    private static final int OFF = Boards.OFF;
    private static final int[] FAR = {0, 0, 1, 1, 2, 3};

    private final Sentences doc;
    private final Check check;

    StakeBounds(Sentences sentences) {
        doc = sentences;
        check = sentences.check;
    }

    void all() {
        doc.says("The stake", "The stake is 1 at first, and nobody has the cube.", this::atFirst);
        doc.says("The stake", "Ahead of a roll the mover can offer a double", this::aheadOfRoll);
        doc.says("The stake", "if the mover has the cube, or nobody has it", this::cubeOfMover);
        doc.says("The stake", "and the stake is at most 32", this::atMost32);
        doc.says("The stake", "the stake becomes twice as much, and the other one has the cube; the mover goes on",
                this::taken);
        doc.says("The stake", "or drops it: the game is over, and the mover wins the stake as it was", this::dropped);
        doc.says("The stake", "When all pieces of the mover are off, the game is over (no dice are left then)",
                this::allOff);
        doc.says("The stake", "and the mover wins the stake, twice, if no piece of the other one is off", this::twice);
        doc.says("The stake", "What is won is added to the score of the winner.", this::added);
        doc.says("The stake", "A new game begins as at the beginning, with the stake 1 and the cube at nobody",
                this::newGame);
        doc.says("The stake", "the one who lost is the mover", this::loserBegins);
        promises();
    }

    private void promises() {
        doc.says("Promise 6", "Offers a double.", this::offered);
        doc.says("Promise 6", "Undoable.", () -> check.undoable("offer", Moment.AHEAD_OF_A_ROLL::made, MagpieRuns::offer));
        doc.says("Promise 6", "Returns the stake that it would be.", this::stakeThatWouldBe);
        doc.says("Promise 6", "if that is not possible", this::offerNotPossible);
        doc.says("Promise 7", "Takes a double that is offered.", this::taken);
        doc.says("Promise 7", "Undoable.", () -> check.undoable("take", Moment.DOUBLE_OFFERED::made, MagpieRuns::take));
        doc.says("Promise 7", "Returns the stake then.", this::stakeThen);
        doc.says("Promise 7", "if none is offered", () -> check.refusedIn(
                Moment.allBut(Moment.DOUBLE_OFFERED), "take()", MagpieRuns::take));
        doc.says("Promise 8", "Drops a double that is offered.", this::dropped);
        doc.says("Promise 8", "Undoable.", () -> check.undoable("drop", Moment.DOUBLE_OFFERED::made, MagpieRuns::drop));
        doc.says("Promise 8", "Returns the score of the mover then.", this::scoreThen);
        doc.says("Promise 8", "if none is offered", () -> check.refusedIn(
                Moment.allBut(Moment.DOUBLE_OFFERED), "drop()", MagpieRuns::drop));
        doc.says("Promise 9", "Begins a new game.", this::newGame);
        doc.says("Promise 9", "Undoable.", () -> check.undoable("newGame", Moment.DROPPED::made, MagpieRuns::newGame));
        doc.says("Promise 9", "Returns the mover then.", this::loserBegins);
        doc.says("Promise 9", "if the game is not over", () -> check.refusedIn(
                Moment.allBut(Moment.DROPPED, Moment.WON), "newGame()", MagpieRuns::newGame));
    }

    /**
     * An object ahead of a roll, with a stake that has been doubled so often, the cube at the mover:
     * on its board nobody makes a step by 1 or 2.
     */
    private static MagpieRuns doubled(int times) {
        MagpieRuns x = Boards.with(Boards.at(BAR, BAR, 14, 14, 15, 15), Boards.at(BAR, BAR, 1, 1, 0, 0));
        for (int i = 0; i < times; i++) {
            x.offer();
            x.take();
            x.roll(2, 1);
            x.endTurn();
        }
        return x;
    }

    private void atFirst() {
        MagpieRuns x = new MagpieRuns();
        check.is("stake", x.stake(), 1);
        check.is("cubeOf", x.cubeOf(), -1);
        x.offer();
        check.is("stake while offered", x.stake(), 1);
        check.is("cubeOf while offered", x.cubeOf(), -1);
    }

    private void aheadOfRoll() {
        check.refusedIn(Moment.allBut(Moment.AHEAD_OF_A_ROLL), "offer()", MagpieRuns::offer);
        MagpieRuns x = new MagpieRuns();
        Boards.passTurn(x);
        check.is("offer ahead of the roll of the player 1", x.offer(), 2);
    }

    private void cubeOfMover() {
        MagpieRuns x = new MagpieRuns();
        check.is("offer while nobody has the cube", x.offer(), 2);
        x.take();
        check.raises("offer while the other one has it", x, Check.STATE, x::offer);
        check.refused("offer while the other one has it", StakeBounds::takenOnce, Check.STATE, MagpieRuns::offer);
        Boards.passTurn(x);
        check.is("offer of the one who has it", x.offer(), 4);
        x.undo();
        Boards.passTurn(x);
        check.raises("offer of the player 0 while the player 1 has it", x, Check.STATE, x::offer);
        Boards.passTurn(x);
        check.is("offer of the player 1 later on", x.offer(), 4);
        x.take();
        check.is("cubeOf", x.cubeOf(), 0);
        check.raises("offer of the player 1 while the player 0 has it", x, Check.STATE, x::offer);
    }

    private static MagpieRuns takenOnce() {
        MagpieRuns x = Moment.DOUBLE_OFFERED.made();
        x.take();
        return x;
    }

    private void atMost32() {
        int[] stakes = {1, 2, 4, 8, 16, 32};
        for (int times = 0; times < stakes.length; times++) {
            check.is("the stake", doubled(times).stake(), stakes[times]);
            check.is("offer at a stake of " + stakes[times], doubled(times).offer(), 2 * stakes[times]);
        }
        check.is("the stake", doubled(6).stake(), 64);
        check.is("the cube is at the mover", doubled(6).cubeOf(), doubled(6).mover());
        check.refused("offer at a stake of 64", () -> doubled(6), Check.STATE, MagpieRuns::offer);
    }

    private void taken() {
        for (int times = 0; times <= 5; times++) {
            MagpieRuns x = doubled(times);
            int stake = x.stake();
            int mover = x.mover();
            x.offer();
            check.is("take at a stake of " + stake, x.take(), 2 * stake);
            check.is("stake", x.stake(), 2 * stake);
            check.is("cubeOf", x.cubeOf(), 1 - mover);
            check.is("mover", x.mover(), mover);
            check.is("phase", x.phase(), 0);
            check.is("the mover goes on with a roll", x.roll(1, 2), 2);
        }
    }

    private void dropped() {
        for (int times = 0; times <= 5; times++) {
            MagpieRuns x = doubled(times);
            int stake = x.stake();
            int mover = x.mover();
            x.offer();
            check.is("drop at a stake of " + stake, x.drop(), stake);
            check.is("score of the mover", x.score(mover), stake);
            check.is("score of the other one", x.score(1 - mover), 0);
            check.is("phase", x.phase(), 3);
            check.is("stake", x.stake(), stake);
            check.is("mover", x.mover(), mover);
            check.is("diceLeft", x.diceLeft(), 0);
        }
    }

    private void allOff() {
        for (Side side : Side.BOTH) {
            for (int left = 1; left <= 4; left++) {
                int[] mine = {OFF, OFF, OFF, OFF, OFF, OFF};
                java.util.Arrays.fill(mine, 0, left, 15);
                MagpieRuns x = side.rolled(mine, FAR, 6, 6);
                for (int i = 1; i < left; i++) {
                    side.step(x, 15, 6);
                    check.is(side + "with " + (left - i) + " left", x.phase(), 1);
                    check.is(side + "dice", x.diceLeft(), 4 - i);
                }
                int score = x.score(side.me);
                side.step(x, 15, 6);
                check.is(side + "with none left", x.phase(), 3);
                check.is(side + "no dice are left", x.diceLeft(), 0);
                check.is(side + "score", x.score(side.me), score + 2);
                check.is(side + "mover", x.mover(), side.me);
            }
            MagpieRuns bar = side.rolled(Boards.at(15, 14, OFF, OFF, OFF, OFF), Boards.at(BAR, BAR, BAR, BAR, BAR, BAR), 1, 2);
            side.step(bar, 14, 2);
            check.is(side + "one is left", bar.phase(), 1);
            side.step(bar, 15, 1);
            check.is(side + "over with both dice used", bar.phase(), 3);
        }
    }

    private void twice() {
        for (Side side : Side.BOTH) {
            for (int off = 0; off <= 5; off++) {
                int[] theirs = {0, 0, 1, 1, 2, BAR};
                java.util.Arrays.fill(theirs, 0, off, OFF);
                MagpieRuns x = side.board(Boards.at(15, OFF, OFF, OFF, OFF, OFF), theirs);
                int score = x.score(side.me);
                x.offer();
                x.take();
                x.roll(1, 1);
                side.step(x, 15, 1);
                check.is(side + "" + off + " of the other one off", x.score(side.me) - score, off == 0 ? 4 : 2);
                check.is(side + "stake", x.stake(), 2);
            }
            MagpieRuns drop = side.board(Side.START_MINE, Side.START_THEIRS);
            int score = drop.score(side.me);
            drop.offer();
            check.is(side + "a drop counts once", drop.drop(), score + 1);
        }
    }

    private void added() {
        MagpieRuns x = new MagpieRuns();
        x.offer();
        x.drop();
        check.is("score(0)", x.score(0), 1);
        x.newGame();
        Boards.passTurn(x);
        x.offer();
        check.is("one more of the player 0", x.drop(), 2);
        check.is("score(1)", x.score(1), 0);
        x.newGame();
        x.offer();
        check.is("one of the player 1", x.drop(), 1);
        check.is("score(0) stays", x.score(0), 2);
        MagpieRuns won = Moment.WON.made();
        check.is("1 from a drop and 2 of this game", won.score(0), 3);
        check.is("1 from a drop", won.score(1), 1);
    }

    private void newGame() {
        for (Moment moment : new Moment[] {Moment.DROPPED, Moment.WON}) {
            MagpieRuns x = moment.made();
            int score0 = x.score(0);
            int score1 = x.score(1);
            x.newGame();
            for (int point = 0; point < 16; point++) {
                check.is("mine on " + point, x.piecesOn(0, point), new MagpieRuns().piecesOn(0, point));
                check.is("theirs on " + point, x.piecesOn(1, point), new MagpieRuns().piecesOn(1, point));
            }
            check.is("bars", x.onBar(0) + x.onBar(1), 0);
            check.is("off", x.borneOff(0) + x.borneOff(1), 0);
            check.is("phase", x.phase(), 0);
            check.is("stake", x.stake(), 1);
            check.is("cubeOf", x.cubeOf(), -1);
            check.is("score(0)", x.score(0), score0);
            check.is("score(1)", x.score(1), score1);
        }
        MagpieRuns x = doubled(3);
        x.offer();
        x.drop();
        check.is("stake ahead of the new game", x.stake(), 8);
        check.is("cube ahead of the new game", x.cubeOf(), 1);
        x.newGame();
        check.is("stake", x.stake(), 1);
        check.is("cubeOf", x.cubeOf(), -1);
        check.is("offer in the new game", x.offer(), 2);
    }

    private void loserBegins() {
        check.is("newGame behind a drop of the player 1", Moment.DROPPED.made().newGame(), 1);
        check.is("newGame behind a game of the player 0", Moment.WON.made().newGame(), 1);
        MagpieRuns x = new MagpieRuns();
        for (int game = 0; game < 4; game++) {
            x.offer();
            x.drop();
            check.is("newGame", x.newGame(), 1 - game % 2);
            check.is("mover", x.mover(), 1 - game % 2);
        }
        MagpieRuns y = Side.BOTH[1].rolled(Boards.at(15, OFF, OFF, OFF, OFF, OFF), FAR, 1, 1);
        y.step(0, 1);
        check.is("newGame behind a game of the player 1", y.newGame(), 0);
    }

    private void offered() {
        MagpieRuns x = Moment.AHEAD_OF_A_ROLL.made();
        x.offer();
        check.is("phase", x.phase(), 2);
        check.is("mover", x.mover(), 0);
        check.is("stake", x.stake(), 1);
        check.is("cubeOf", x.cubeOf(), -1);
        check.is("score(0)", x.score(0), 1);
    }

    private void stakeThatWouldBe() {
        for (int times = 0; times <= 5; times++) {
            MagpieRuns x = doubled(times);
            check.is("offer", x.offer(), 2 << times);
            check.is("the stake as it is", x.stake(), 1 << times);
            check.is("take", x.take(), 2 << times);
        }
    }

    private void offerNotPossible() {
        check.refusedIn(Moment.allBut(Moment.AHEAD_OF_A_ROLL), "offer()", MagpieRuns::offer);
        check.refused("offer without the cube", StakeBounds::takenOnce, Check.STATE, MagpieRuns::offer);
        check.refused("offer at a stake of 64", () -> doubled(6), Check.STATE, MagpieRuns::offer);
        check.answers("offer at a stake of 32", doubled(5), MagpieRuns::offer);
    }

    private void stakeThen() {
        for (int times = 0; times <= 5; times++) {
            MagpieRuns x = doubled(times);
            x.offer();
            check.is("take", x.take(), 2 << times);
        }
    }

    private void scoreThen() {
        check.is("drop with a score of 1", Moment.DOUBLE_OFFERED.made().drop(), 2);
        MagpieRuns x = new MagpieRuns();
        x.offer();
        check.is("drop with a score of 0", x.drop(), 1);
        x.newGame();
        x.offer();
        check.is("drop of the other one", x.drop(), 1);
        MagpieRuns y = doubled(5);
        y.offer();
        check.is("drop at the greatest stake", y.drop(), 32);
    }
}
