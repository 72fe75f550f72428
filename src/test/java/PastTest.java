import java.util.List;
import java.util.function.Supplier;

/** Promises 16 to 19: undo, the snapshot, and the number of saved states. */
public final class PastTest {
    private static final Check check = new Check();

    public static void main(String[] args) {
        undoOfEach();
        fiveStates();
        notUndoable();
        undoKeepsTheRest();
        keepAndRestore();
        restoreBringsTheStop();
        throwsSaveNothing();
        check.end("PastTest");
    }

    private static void undone(String call, MagpieRuns x, Supplier<Object> made) {
        String before = Whole.state(x);
        int saved = x.savedStates();
        made.get();
        check.is(call + " saves a state", x.savedStates(), Math.min(5, saved + 1));
        check.is("undo of " + call, x.undo(), Math.min(4, saved));
        check.is("the state behind undo of " + call, Whole.state(x), before);
        made.get();
    }

    private static void undoOfEach() {
        MagpieRuns x = new MagpieRuns();
        check.raises("undo on a new object", x, Check.STATE, x::undo);
        undone("carry", x, () -> x.carry(1, 8, 9));
        x.keep();
        undone("roll", x, () -> x.roll(2, 1));
        undone("step", x, () -> x.step(7, 2));
        undone("step", x, () -> x.step(7, 1));
        undone("endTurn", x, x::endTurn);
        undone("offer", x, x::offer);
        undone("take", x, x::take);
        x.roll(4, 3);
        x.step(-1, 4);
        x.step(-1, 3);
        x.endTurn();
        undone("offer", x, x::offer);
        undone("drop", x, x::drop);
        undone("newGame", x, x::newGame);
        undone("play", x, () -> Boards.play(x, "x;t;e"));
        undone("play that does nothing", x, () -> Boards.play(x, "e"));
        undone("restore", x, x::restore);
        MagpieRuns z = Boards.with(Boards.at(10, 15, 15, 15, 15, 15), Boards.at(11, 0, 0, 1, 1, 2));
        z.roll(6, 1);
        z.step(10, 1);
        z.endTurn();
        z.roll(5, 6);
        undone("a step that hits the player 0", z, () -> z.step(-1, 5));
        check.is("hits(0)", z.hits(0), 1);
        check.is("hits(1)", z.hits(1), 1);
        MagpieRuns y = Boards.with(Boards.at(15, 16, 16, 16, 16, 16), Boards.at(0, 0, 1, 1, 2, 3));
        undone("roll", y, () -> y.roll(3, 3));
        undone("the last step", y, () -> y.step(15, 3));
    }

    private static void fiveStates() {
        MagpieRuns x = new MagpieRuns();
        for (int point = 1; point <= 7; point++) {
            x.carry(0, point - 1, point);
            check.is("savedStates", x.savedStates(), Math.min(5, point));
        }
        for (int left = 4; left >= 0; left--) {
            check.is("undo", x.undo(), left);
            check.is("savedStates", x.savedStates(), left);
        }
        check.is("the oldest are dropped", x.piecesOn(0, 2), 1);
        check.raises("undo of a dropped state", x, Check.STATE, x::undo);
        x.carry(0, 2, 3);
        check.is("savedStates", x.savedStates(), 1);
        check.is("undo", x.undo(), 0);
        check.is("piecesOn(0, 2)", x.piecesOn(0, 2), 1);
    }

    private static void notUndoable() {
        MagpieRuns x = new MagpieRuns();
        x.append('e');
        x.firstError();
        x.clearBuffer();
        x.keep();
        x.digest();
        x.plays();
        x.playsWith(1, 1);
        x.shots(0);
        check.is("savedStates", x.savedStates(), 0);
    }

    private static void undoKeepsTheRest() {
        MagpieRuns x = new MagpieRuns();
        x.carry(0, 0, 1);
        x.keep();
        x.append('e');
        x.carry(0, 0, 2);
        x.append(';');
        x.undo();
        check.is("undo leaves the buffer", x.clearBuffer(), 2);
        x.undo();
        check.is("piecesOn(0, 0)", x.piecesOn(0, 0), 2);
        x.restore();
        check.is("undo leaves the snapshot", x.piecesOn(0, 1), 1);
        Boards.play(x, "r12");
        x.undo();
        check.is("undo of play leaves the buffer cleared", x.clearBuffer(), 0);
    }

    private static void keepAndRestore() {
        MagpieRuns x = new MagpieRuns();
        check.raises("restore without a snapshot", x, Check.STATE, x::restore);
        check.is("keep()", x.keep(), 0);
        String begin = Whole.state(x);
        x.roll(2, 1);
        x.step(0, 2);
        x.step(0, 1);
        x.endTurn();
        x.offer();
        x.drop();
        check.is("score(1)", x.score(1), 1);
        check.is("restore()", x.restore(), 0);
        check.is("the state of the snapshot", Whole.state(x), begin);
        x.roll(6, 6);
        check.is("restore() again", x.restore(), 0);
        check.is("the snapshot stays", Whole.state(x), begin);
        check.is("savedStates", x.savedStates(), 5);
        x.undo();
        check.is("undo of restore", x.dieLeft(3), 6);
        x.undo();
        x.undo();
        check.is("undo of the first restore", x.score(1), 1);
        x.newGame();
        check.is("keep in place of the one before", x.keep(), 0);
        x.offer();
        x.restore();
        check.is("score(1) of the snapshot", x.score(1), 1);
        check.is("phase of the snapshot", x.phase(), 0);
        x.roll(2, 1);
        x.step(0, 2);
        x.step(0, 1);
        x.endTurn();
        check.is("keep returns the mover", x.keep(), 1);
        x.offer();
        x.drop();
        x.newGame();
        check.is("restore returns the mover", x.restore(), 1);
    }

    private static void restoreBringsTheStop() {
        MagpieRuns x = new MagpieRuns();
        x.keep();
        Boards.play(x, "x;x");
        check.is("stoppedPart", x.stoppedPart(), 1);
        x.restore();
        check.is("no stop in the snapshot", x.hasStopped(), false);
        check.is("stake", x.stake(), 1);
        check.is("phase", x.phase(), 0);
        x.undo();
        x.keep();
        Boards.play(x, "t");
        x.append('x');
        x.restore();
        check.is("a stop in the snapshot", x.stoppedPart(), 1);
        check.is("the buffer is not of the snapshot", x.clearBuffer(), 1);
    }

    private static void throwsSaveNothing() {
        MagpieRuns x = new MagpieRuns();
        x.roll(1, 2);
        List<Supplier<Object>> calls = List.of(() -> x.roll(1, 2), () -> x.step(1, 1), x::endTurn,
                () -> x.carry(0, 0, 1), x::offer, x::take, x::drop, x::newGame, x::play, x::restore);
        for (Supplier<Object> call : calls) {
            Check.outcome(call);
            check.is("savedStates behind a call that throws", x.savedStates(), 1);
        }
    }
}
