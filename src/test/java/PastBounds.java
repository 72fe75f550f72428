import java.util.LinkedHashMap;
import java.util.Map;
import java.util.function.Function;

/** The sentences on undo, the snapshot and exceptions, and the promises 16 to 19. */
final class PastBounds {
    private static final int BAR = Boards.BAR;
    private static final int OFF = Boards.OFF;

    private final Sentences doc;
    private final Check check;

    PastBounds(Sentences sentences) {
        doc = sentences;
        check = sentences.check;
    }

    void all() {
        String past = "Undo, the snapshot";
        doc.says(past, "Each method that is marked \"undoable\"", this::eachUndoable);
        doc.says(past, "and does not throw an exception", this::refusedSavesNothing);
        doc.says(past, "saves the state from before it (also if it changes nothing)", this::alsoNothing);
        doc.says(past, "all, also scores and the latest stop", this::scoresAndStop);
        doc.says(past, "but the buffer, the saved states and the snapshot", this::notTheRest);
        doc.says(past, "(a snapshot has the same)", this::snapshotHasTheSame);
        doc.says(past, "At most 5 states are saved", this::atMostFive);
        doc.says(past, "the oldest one is dropped first", this::oldestIsDropped);
        doc.says("Exceptions", "A call that throws an exception changes nothing.", this::refusedChangesNothing);
        doc.says("Exceptions", "If several exceptions apply", this::firstNamed);
        promises();
    }

    private void promises() {
        doc.says("Promise 16", "Restores the latest saved state, and drops it.", this::latestSaved);
        doc.says("Promise 16", "Returns how many saved states are left.", this::left);
        doc.says("Promise 16", "if there is none", this::noneSaved);
        doc.says("Promise 17", "Takes a snapshot, in place of the one before.", this::inPlaceOfBefore);
        doc.says("Promise 17", "Returns the mover.", this::keepReturns);
        doc.says("Promise 18", "Restores the state of the snapshot, which stays.", this::snapshotStays);
        doc.says("Promise 18", "Undoable.", this::restoreIsUndoable);
        doc.says("Promise 18", "Returns the mover then.", this::restoreReturns);
        doc.says("Promise 18", "if there is no snapshot", this::noSnapshot);
        doc.says("Promise 19", "Returns the number of saved states.", this::savedStates);
    }

    /** Calls that are not marked, with what they need to be answered. */
    private static Map<String, Function<MagpieRuns, Object>> unmarked() {
        Map<String, Function<MagpieRuns, Object>> calls = new LinkedHashMap<>();
        calls.put("append", x -> x.append('e'));
        calls.put("firstError", MagpieRuns::firstError);
        calls.put("clearBuffer", MagpieRuns::clearBuffer);
        calls.put("hasStopped", MagpieRuns::hasStopped);
        calls.put("stoppedPart", MagpieRuns::stoppedPart);
        calls.put("keep", MagpieRuns::keep);
        calls.put("savedStates", MagpieRuns::savedStates);
        calls.put("mover", MagpieRuns::mover);
        calls.put("phase", MagpieRuns::phase);
        calls.put("diceLeft", MagpieRuns::diceLeft);
        calls.put("piecesOn", x -> x.piecesOn(0, 0));
        calls.put("onBar", x -> x.onBar(0));
        calls.put("borneOff", x -> x.borneOff(0));
        calls.put("pips", x -> x.pips(0));
        calls.put("blots", x -> x.blots(0));
        calls.put("blockade", x -> x.blockade(0));
        calls.put("stake", MagpieRuns::stake);
        calls.put("cubeOf", MagpieRuns::cubeOf);
        calls.put("score", x -> x.score(0));
        calls.put("hits", x -> x.hits(0));
        calls.put("whyNoStep", x -> x.whyNoStep(0, 1));
        calls.put("possibleSteps", MagpieRuns::possibleSteps);
        calls.put("reach", MagpieRuns::reach);
        calls.put("plays", MagpieRuns::plays);
        calls.put("playsByOrders", MagpieRuns::playsByOrders);
        calls.put("playsWith", x -> x.playsWith(3, 3));
        calls.put("shots", x -> x.shots(9));
        calls.put("shotsByKinds", x -> x.shotsByKinds(9));
        calls.put("entering", x -> x.entering(0));
        calls.put("lead", MagpieRuns::lead);
        calls.put("digest", MagpieRuns::digest);
        return calls;
    }

    private void eachUndoable() {
        check.undoable("roll", Moment.AHEAD_OF_A_ROLL::made, x -> x.roll(1, 1));
        check.undoable("step", Moment.BEHIND_A_ROLL::made, x -> x.step(7, 2));
        check.undoable("endTurn", () -> played("r21;m0.2;m0.1"), MagpieRuns::endTurn);
        check.undoable("carry", Moment.AHEAD_OF_A_ROLL::made, x -> x.carry(0, 0, BAR));
        check.undoable("offer", Moment.AHEAD_OF_A_ROLL::made, MagpieRuns::offer);
        check.undoable("take", Moment.DOUBLE_OFFERED::made, MagpieRuns::take);
        check.undoable("drop", Moment.DOUBLE_OFFERED::made, MagpieRuns::drop);
        check.undoable("newGame", Moment.DROPPED::made, MagpieRuns::newGame);
        check.undoable("restore", Moment.BEHIND_A_ROLL::made, MagpieRuns::restore);
        check.undoable("play", PastBounds::cleared, x -> Boards.play(x, "r21;m0.2"));
        unmarked().forEach((name, call) -> {
            MagpieRuns x = Moment.BEHIND_A_ROLL.made();
            check.answers(name, x, call);
            check.is("savedStates behind " + name, x.savedStates(), 3);
        });
    }

    private static MagpieRuns played(String text) {
        MagpieRuns x = cleared();
        Boards.play(x, text);
        return x;
    }

    private static MagpieRuns cleared() {
        MagpieRuns x = Moment.AHEAD_OF_A_ROLL.made();
        x.clearBuffer();
        return x;
    }

    private void refusedSavesNothing() {
        Map<String, Function<MagpieRuns, Object>> calls = new LinkedHashMap<>();
        calls.put("roll", x -> x.roll(1, 1));
        calls.put("step", x -> x.step(1, 1));
        calls.put("endTurn", MagpieRuns::endTurn);
        calls.put("carry", x -> x.carry(0, 0, BAR));
        calls.put("offer", MagpieRuns::offer);
        calls.put("take", MagpieRuns::take);
        calls.put("drop", MagpieRuns::drop);
        calls.put("newGame", MagpieRuns::newGame);
        calls.put("play", MagpieRuns::play);
        calls.put("restore", MagpieRuns::restore);
        calls.forEach((name, call) -> {
            MagpieRuns x = new MagpieRuns();
            x.roll(2, 1);
            String before = Whole.state(x);
            Object answer = Check.outcome(() -> call.apply(x));
            check.is(name + " is refused", answer.toString().startsWith("throws."), true);
            check.is("savedStates behind " + name, x.savedStates(), 1);
            check.is("the state behind " + name, Whole.state(x), before);
            check.is("undo goes back behind the roll", x.undo(), 0);
            check.is("diceLeft", x.diceLeft(), 0);
        });
    }

    private void alsoNothing() {
        check.undoable("a carry to where it is", Moment.AHEAD_OF_A_ROLL::made, x -> x.carry(0, 0, 0));
        check.undoable("a play of which nothing is done", PastBounds::cleared, x -> Boards.play(x, "e"));
        check.undoable("a restore of the state that is", PastBounds::keptNow, MagpieRuns::restore);
        MagpieRuns x = keptNow();
        String before = Whole.state(x);
        x.restore();
        check.is("that restore changes nothing", Whole.state(x), before);
    }

    /** An object of which the snapshot is just the state that it has. */
    private static MagpieRuns keptNow() {
        MagpieRuns x = Moment.BEHIND_A_ROLL.made();
        x.keep();
        return x;
    }

    private void backTo(String what, MagpieRuns x, Function<MagpieRuns, Object> call) {
        String before = Whole.state(x);
        check.answers(what, x, call);
        check.is(what + " changes the state", Whole.state(x).equals(before), false);
        x.undo();
        check.is("undo brings back " + what, Whole.state(x), before);
    }

    private void scoresAndStop() {
        backTo("pieces", new MagpieRuns(), x -> x.carry(0, 4, 5));
        backTo("pieces of the other one", new MagpieRuns(), x -> x.carry(1, 11, 10));
        backTo("pieces on the bar", new MagpieRuns(), x -> x.carry(0, 4, BAR));
        backTo("pieces off", new MagpieRuns(), x -> x.carry(1, 8, OFF));
        backTo("phase and dice", new MagpieRuns(), x -> x.roll(6, 5));
        backTo("dice of four", played("r33"), x -> x.step(0, 3));
        backTo("hits of the player 1", Moment.BEHIND_A_ROLL.made(), x -> x.step(7, 2));
        backTo("hits of the player 0", hitsPlayer0(), x -> x.step(15, 2));
        backTo("mover", played("r21;m0.2;m0.1"), MagpieRuns::endTurn);
        backTo("stake and cube", Moment.DOUBLE_OFFERED.made(), MagpieRuns::take);
        backTo("score of the player 0", Moment.DOUBLE_OFFERED.made(), MagpieRuns::drop);
        backTo("score of the player 1", played("x;d;n;x"), MagpieRuns::drop);
        backTo("a stop", cleared(), x -> Boards.play(x, "r21"));
        backTo("no stop", new MagpieRuns(), x -> Boards.play(x, "e"));
        backTo("the place of a stop", cleared(), x -> Boards.play(x, "e"));
        MagpieRuns x = new MagpieRuns();
        Boards.play(x, "x;d;n;x;t;e");
        x.undo();
        check.is("score(0) behind undo", x.score(0), 0);
        check.is("hasStopped behind undo", x.hasStopped(), false);
    }

    private static MagpieRuns hitsPlayer0() {
        MagpieRuns x = Side.BOTH[1].board(Boards.at(0, 0, 4, 4, 7, 7), Boards.at(2, 15, 15, 11, 11, 8));
        x.roll(2, 1);
        return x;
    }

    private void notTheRest() {
        MagpieRuns x = new MagpieRuns();
        x.carry(0, 0, 1);
        x.append('e');
        x.append(';');
        x.keep();
        check.is("undo", x.undo(), 0);
        check.is("the state ahead of the carry", x.piecesOn(0, 1), 0);
        check.is("the buffer stays behind undo", x.firstError(), 2);
        check.is("the snapshot stays behind undo", Check.outcome(x::restore), 0);
        check.is("the state of the snapshot", x.piecesOn(0, 1), 1);
        check.is("the buffer stays behind restore", x.clearBuffer(), 2);
        MagpieRuns saved = new MagpieRuns();
        saved.carry(0, 0, 1);
        saved.keep();
        saved.carry(0, 0, 1);
        saved.carry(0, 4, 5);
        saved.restore();
        check.is("the saved states are not of the snapshot", saved.savedStates(), 4);
        check.is("undo of restore", saved.undo(), 3);
        check.is("the saved states are those behind it", saved.piecesOn(0, 5), 1);
    }

    private void snapshotHasTheSame() {
        for (Moment moment : Moment.values()) {
            MagpieRuns x = moment.made();
            String kept = Whole.state(x);
            x.keep();
            change(x);
            check.is("the state is another one than " + moment, Whole.state(x).equals(kept), false);
            x.append('e');
            x.restore();
            check.is("the state of the snapshot " + moment, Whole.state(x), kept);
            check.is("the buffer is not of the snapshot " + moment, x.clearBuffer(), 8);
        }
        MagpieRuns x = new MagpieRuns();
        x.keep();
        Boards.play(x, "x;d;n;e");
        x.restore();
        check.is("no stop in the snapshot", x.hasStopped(), false);
        check.is("score(0) of the snapshot", x.score(0), 0);
    }

    private static void change(MagpieRuns x) {
        switch (x.phase()) {
            case 0 -> x.carry(0, 0, 2);
            case 1 -> Check.outcome(() -> x.possibleSteps() > 0 ? x.step(0, 1) : x.endTurn());
            case 2 -> x.take();
            default -> x.newGame();
        }
    }

    /** An object with so many carries behind it, each by one point. */
    private static MagpieRuns carried(int calls) {
        MagpieRuns x = new MagpieRuns();
        for (int i = 0; i < calls; i++) {
            x.carry(0, i, i + 1);
        }
        return x;
    }

    private void atMostFive() {
        for (int calls = 0; calls <= 7; calls++) {
            MagpieRuns x = carried(calls);
            check.is("savedStates behind " + calls, x.savedStates(), Math.min(5, calls));
            if (calls > 0) {
                check.is("undo behind " + calls, x.undo(), Math.min(5, calls) - 1);
                x.roll(2, 1);
                check.is("savedStates again", x.savedStates(), Math.min(5, calls));
            }
        }
    }

    /** Each carry has taken one from the pips, so that these tell to which state undo went back. */
    private void oldestIsDropped() {
        for (int calls = 1; calls <= 7; calls++) {
            MagpieRuns x = carried(calls);
            for (int undone = 1; undone <= Math.min(5, calls); undone++) {
                x.undo();
                check.is("behind " + undone + " of " + calls + " undone", x.pips(0), 74 - calls + undone);
            }
        }
        check.is("the first state behind 5", allUndone(carried(5)).pips(0), 74);
        check.is("the second state behind 6", allUndone(carried(6)).pips(0), 73);
        check.is("the third state behind 7", allUndone(carried(7)).pips(0), 72);
    }

    private static MagpieRuns allUndone(MagpieRuns x) {
        for (int i = 0; i < 5 && x.savedStates() > 0; i++) {
            x.undo();
        }
        return x;
    }

    private void refusedChangesNothing() {
        Map<String, Function<MagpieRuns, Object>> calls = new LinkedHashMap<>();
        calls.put("roll", x -> x.roll(0, 1));
        calls.put("step", x -> x.step(1, 1));
        calls.put("carry", x -> x.carry(0, 1, 17));
        calls.put("append", x -> x.append(127));
        calls.put("play", MagpieRuns::play);
        calls.put("dieLeft", x -> x.dieLeft(4));
        calls.put("piecesOn", x -> x.piecesOn(0, 16));
        calls.put("onBar", x -> x.onBar(2));
        calls.put("borneOff", x -> x.borneOff(-1));
        calls.put("pips", x -> x.pips(2));
        calls.put("blots", x -> x.blots(-1));
        calls.put("blockade", x -> x.blockade(2));
        calls.put("score", x -> x.score(-1));
        calls.put("hits", x -> x.hits(2));
        calls.put("whyNoStep", x -> x.whyNoStep(16, 1));
        calls.put("playsWith", x -> x.playsWith(6, 7));
        calls.put("shots", x -> x.shots(16));
        calls.put("shotsByKinds", x -> x.shotsByKinds(-1));
        calls.put("entering", x -> x.entering(2));
        calls.put("blotsBehind", x -> x.blotsBehind(1, 1));
        calls.forEach((name, call) -> {
            for (Moment moment : Moment.values()) {
                MagpieRuns x = moment.made();
                Object answer = Check.outcome(() -> call.apply(x));
                check.is(name + " is refused " + moment, answer.toString().startsWith("throws."), true);
                check.is(name + " changes nothing " + moment, Whole.everything(x), Whole.everything(moment.made()));
            }
        });
        check.refusedIn(Moment.allBut(Moment.ALL_DICE_USED, Moment.NO_STEP_POSSIBLE), "endTurn", MagpieRuns::endTurn);
        check.refusedIn(Moment.allBut(Moment.AHEAD_OF_A_ROLL), "offer", MagpieRuns::offer);
        check.refusedIn(Moment.allBut(Moment.DOUBLE_OFFERED), "take", MagpieRuns::take);
        check.refusedIn(Moment.allBut(Moment.DOUBLE_OFFERED), "drop", MagpieRuns::drop);
        check.refusedIn(Moment.allBut(Moment.DROPPED, Moment.WON), "newGame", MagpieRuns::newGame);
        check.refused("stoppedPart", () -> played("r21"), Check.STATE, MagpieRuns::stoppedPart);
        check.refused("undo", () -> allUndone(Moment.BEHIND_A_ROLL.made()), Check.STATE, MagpieRuns::undo);
        check.refused("restore", () -> carried(3), Check.STATE, MagpieRuns::restore);
    }

    private void firstNamed() {
        for (Moment moment : Moment.values()) {
            first(moment, "roll(0, 1)", Check.ARGUMENT, x -> x.roll(0, 1));
            first(moment, "step(16, 7)", Check.BOUNDS, x -> x.step(16, 7));
            first(moment, "step(-2, 1)", Check.BOUNDS, x -> x.step(-2, 1));
            first(moment, "step(1, 7)", Check.ARGUMENT, x -> x.step(1, 7));
            first(moment, "step(1, 1)", Check.STATE, x -> x.step(1, 1));
            first(moment, "carry(2, 1, 8)", Check.BOUNDS, x -> x.carry(2, 1, 8));
            first(moment, "carry(0, 1, 17)", Check.BOUNDS, x -> x.carry(0, 1, 17));
            first(moment, "carry(0, 13, 8)", Check.STATE, x -> x.carry(0, 13, 8));
            first(moment, "whyNoStep(-2, 0)", Check.BOUNDS, x -> x.whyNoStep(-2, 0));
            first(moment, "whyNoStep(15, 0)", Check.ARGUMENT, x -> x.whyNoStep(15, 0));
            first(moment, "blotsBehind(-2, 0)", Check.BOUNDS, x -> x.blotsBehind(-2, 0));
            first(moment, "blotsBehind(16, 1)", Check.BOUNDS, x -> x.blotsBehind(16, 1));
            first(moment, "blotsBehind(1, 0)", Check.ARGUMENT, x -> x.blotsBehind(1, 0));
            first(moment, "blotsBehind(1, 1)", Check.STATE, x -> x.blotsBehind(1, 1));
        }
        String full = "e;".repeat(30);
        check.refused("append(32) to 60", () -> Boards.write(new MagpieRuns(), full), Check.ARGUMENT, x -> x.append(32));
        check.refused("append(33) to 60", () -> Boards.write(new MagpieRuns(), full), Check.STATE, x -> x.append(33));
    }

    private void first(Moment moment, String call, Class<? extends Exception> due, Function<MagpieRuns, Object> made) {
        check.refused(call + " " + moment, moment::made, due, made);
    }

    private void latestSaved() {
        MagpieRuns x = new MagpieRuns();
        x.carry(0, 0, 1);
        x.roll(2, 1);
        x.step(0, 2);
        x.undo();
        check.is("the state ahead of the step", x.diceLeft() * 10 + x.piecesOn(0, 0), 21);
        x.undo();
        check.is("the state ahead of the roll", x.diceLeft() * 10 + x.piecesOn(0, 0), 1);
        x.undo();
        check.is("the state ahead of the carry", x.diceLeft() * 10 + x.piecesOn(0, 0), 2);
        x.roll(6, 5);
        x.undo();
        check.is("the state ahead of the second roll", Whole.everything(x), Whole.everything(new MagpieRuns()));
    }

    private void left() {
        for (int calls = 1; calls <= 6; calls++) {
            MagpieRuns x = carried(calls);
            for (int left = Math.min(5, calls) - 1; left >= 0; left--) {
                check.is("undo", x.undo(), left);
                check.is("savedStates", x.savedStates(), left);
            }
        }
    }

    private void noneSaved() {
        check.refused("undo of a new object", MagpieRuns::new, Check.STATE, MagpieRuns::undo);
        for (int calls = 1; calls <= 6; calls++) {
            int made = calls;
            check.answers("the last undo of " + calls, oneSaved(carried(calls)), MagpieRuns::undo);
            check.refused("one undo more of " + calls, () -> allUndone(carried(made)), Check.STATE, MagpieRuns::undo);
        }
        check.refusedIn(java.util.Set.of(), "undo", MagpieRuns::undo);
    }

    private static MagpieRuns oneSaved(MagpieRuns x) {
        for (int i = 0; i < 5 && x.savedStates() > 1; i++) {
            x.undo();
        }
        return x;
    }

    private void inPlaceOfBefore() {
        MagpieRuns x = new MagpieRuns();
        x.keep();
        check.is("keep saves no state", x.savedStates(), 0);
        x.carry(0, 0, 1);
        x.keep();
        x.carry(0, 0, 1);
        x.restore();
        check.is("the second snapshot", x.piecesOn(0, 1), 1);
        x.carry(0, 0, 1);
        x.undo();
        x.undo();
        x.undo();
        check.is("undo", x.savedStates(), 1);
        x.restore();
        check.is("the second snapshot again", x.piecesOn(0, 1), 1);
        x.carry(0, 4, 5);
        x.keep();
        x.undo();
        x.restore();
        check.is("the third snapshot", x.piecesOn(0, 5), 1);
    }

    private void keepReturns() {
        for (Moment moment : Moment.values()) {
            check.is("keep " + moment, moment.made().keep(), 0);
        }
        MagpieRuns x = played("r21;m0.2;m0.1;e");
        check.is("keep in the turn of the player 1", x.keep(), 1);
        x.undo();
        check.is("keep behind undo", x.keep(), 0);
    }

    private void snapshotStays() {
        MagpieRuns x = Moment.BEHIND_A_ROLL.made();
        x.keep();
        String kept = Whole.state(x);
        for (int times = 1; times <= 6; times++) {
            x.step(0, 1 + times % 2);
            check.is("restore", x.restore(), 0);
            check.is("the state behind restore " + times, Whole.state(x), kept);
        }
        x.step(7, 2);
        x.undo();
        x.undo();
        x.restore();
        check.is("the state behind undo and restore", Whole.state(x), kept);
    }

    private void restoreIsUndoable() {
        check.undoable("restore", Moment.AHEAD_OF_A_ROLL::made, MagpieRuns::restore);
        check.undoable("restore behind a roll", Moment.BEHIND_A_ROLL::made, MagpieRuns::restore);
        check.undoable("restore behind an offer", Moment.DOUBLE_OFFERED::made, MagpieRuns::restore);
        check.undoable("restore with the game over", Moment.DROPPED::made, MagpieRuns::restore);
        MagpieRuns x = Moment.ALL_DICE_USED.made();
        check.is("savedStates", x.savedStates(), 5);
        String before = Whole.state(x);
        x.restore();
        check.is("savedStates with five of them", x.savedStates(), 5);
        x.undo();
        check.is("undo of restore", Whole.state(x), before);
    }

    private void restoreReturns() {
        MagpieRuns x = new MagpieRuns();
        x.keep();
        Boards.play(x, "r21;m0.2;m0.1;e");
        check.is("mover", x.mover(), 1);
        check.is("restore to the player 0", x.restore(), 0);
        x.undo();
        x.keep();
        x.undo();
        check.is("mover", x.mover(), 0);
        check.is("restore to the player 1", x.restore(), 1);
        check.is("mover", x.mover(), 1);
    }

    private void noSnapshot() {
        check.refused("restore of a new object", MagpieRuns::new, Check.STATE, MagpieRuns::restore);
        check.refused("restore behind three calls", () -> carried(3), Check.STATE, MagpieRuns::restore);
        check.refused("restore behind seven calls", () -> carried(7), Check.STATE, MagpieRuns::restore);
        check.refused("restore behind undo", () -> allUndone(carried(3)), Check.STATE, MagpieRuns::restore);
        MagpieRuns x = new MagpieRuns();
        x.keep();
        check.answers("restore with a snapshot", x, MagpieRuns::restore);
        check.refusedIn(java.util.Set.of(), "restore", MagpieRuns::restore);
    }

    private void savedStates() {
        for (int calls = 0; calls <= 6; calls++) {
            MagpieRuns x = carried(calls);
            check.is("savedStates behind " + calls, x.savedStates(), Math.min(5, calls));
            check.is("savedStates again", x.savedStates(), Math.min(5, calls));
        }
        MagpieRuns x = carried(2);
        x.undo();
        check.is("savedStates behind undo", x.savedStates(), 1);
        x.keep();
        check.is("savedStates behind keep", x.savedStates(), 1);
        x.restore();
        check.is("savedStates behind restore", x.savedStates(), 2);
        check.raises("a refused call", x, Check.STATE, x::take);
        check.is("savedStates behind a refused call", x.savedStates(), 2);
    }
}
