import java.util.EnumSet;
import java.util.LinkedHashMap;
import java.util.Map;
import java.util.Set;
import java.util.function.Function;
import java.util.function.Supplier;

/**
 * All promises: what a call changes, and that it leaves all else as it was. The objects have
 * something to lose everywhere: a stake, the cube, scores, hits, a stop, a buffer, saved states
 * and a snapshot.
 */
public final class LeavesTest {
    private static final Function<MagpieRuns, Object> NOTHING = x -> "";

    private final Check check = new Check();
    private final Side side;

    private LeavesTest(Side seen) {
        side = seen;
    }

    public static void main(String[] args) {
        int wrong = 0;
        int all = 0;
        for (Side side : Side.BOTH) {
            LeavesTest test = new LeavesTest(side);
            test.all();
            wrong += test.check.wrong();
            all += test.check.answers();
        }
        System.out.println("LeavesTest: " + (all - wrong) + " answers as due, " + wrong + " not");
        if (wrong != 0) {
            System.exit(1);
        }
    }

    private void all() {
        somethingToLose();
        theGame();
        theStake();
        texts();
        past();
        for (Map.Entry<String, Function<MagpieRuns, Object>> look : looks().entrySet()) {
            changesNothing(look.getKey(), look.getValue());
        }
    }

    // ---- objects with something to lose

    /**
     * The side is the mover ahead of a roll and has the cube, the stake is 2; both have scores and
     * were hit; the latest play stopped at the part 4. The other player has blots on the points 6 and 13.
     */
    private MagpieRuns lived() {
        MagpieRuns x = new MagpieRuns();
        int games = side.me == 0 ? 3 : 4;
        for (int i = 0; i < games; i++) {
            x.offer();
            x.drop();
            x.newGame();
        }
        x.offer();
        x.take();
        x.keep();
        x.carry(side.me, side.at(4), side.at(6));
        x.roll(4, 2);
        side.step(x, 8, 4);
        side.step(x, 8, 2);
        x.endTurn();
        x.roll(5, 3);
        side.step(x, -1, 5);
        side.step(x, -1, 3);
        x.endTurn();
        Boards.play(x, "r12;b.1;m" + side.at(15) + ".2;e;e");
        return x;
    }

    /** The object in this state, with two saved states and a buffer. */
    private MagpieRuns ready(MagpieRuns x) {
        String refused = x.phase() == 3 ? "e" : "n";
        while (x.savedStates() < 5) {
            Boards.play(x, refused);
        }
        for (int i = 0; i < 3; i++) {
            Boards.play(x, refused);
        }
        for (int i = 0; i < 3; i++) {
            x.undo();
        }
        return Boards.write(x, "r12;m1");
    }

    private MagpieRuns aheadOfRoll() {
        return ready(lived());
    }

    private MagpieRuns behindRoll() {
        MagpieRuns x = lived();
        x.roll(4, 3);
        return ready(x);
    }

    private MagpieRuns diceUsed() {
        MagpieRuns x = lived();
        x.roll(4, 3);
        side.step(x, 0, 4);
        side.step(x, 0, 3);
        return ready(x);
    }

    private MagpieRuns offered() {
        MagpieRuns x = lived();
        x.offer();
        return ready(x);
    }

    private MagpieRuns dropped() {
        MagpieRuns x = lived();
        x.offer();
        x.drop();
        return ready(x);
    }

    /** The last piece of the side is to go off, and the other player has none off. */
    private MagpieRuns aheadOfLast() {
        MagpieRuns x = lived();
        for (int point = 0; point < 16; point++) {
            while (side.mineOn(x, point) > 0 && x.borneOff(side.me) < 5) {
                x.carry(side.me, side.at(point), 16);
            }
            if (side.mineOn(x, point) > 0) {
                x.carry(side.me, side.at(point), side.at(14));
            }
        }
        x.roll(2, 2);
        return ready(x);
    }

    /** A blot of the other player is four points ahead of a piece of the side. */
    private MagpieRuns aheadOfHit() {
        MagpieRuns x = lived();
        x.carry(side.other, side.at(13), side.at(8));
        x.roll(4, 3);
        return ready(x);
    }

    private void somethingToLose() {
        MagpieRuns x = aheadOfRoll();
        check.is(side + "mover", x.mover(), side.me);
        check.is(side + "phase", x.phase(), 0);
        check.is(side + "stake", x.stake(), 2);
        check.is(side + "cube", x.cubeOf(), side.me);
        check.is(side + "scores", x.score(side.me) > 0 && x.score(side.other) > 0, true);
        check.is(side + "hits of mine", x.hits(side.me), 2);
        check.is(side + "hits of theirs", x.hits(side.other), 1);
        check.is(side + "stop", x.stoppedPart(), 4);
        check.is(side + "saved states", x.savedStates(), 2);
        check.is(side + "first error", x.firstError(), 6);
        check.is(side + "snapshot", x.restore(), side.other);
        check.is(side + "the snapshot has no stop", x.hasStopped(), false);
        check.is(side + "the latest saved state is of a turn", undoneTwice(aheadOfRoll()), 0);
    }

    private static int undoneTwice(MagpieRuns x) {
        x.undo();
        return x.undo();
    }

    // ---- what is left as it was

    /** An undoable call changes just these parts and saves one state; undo brings all back. */
    private void changes(String call, Supplier<MagpieRuns> state, Function<MagpieRuns, Object> made, Part... due) {
        check.undoable(side + call, state, made);
        Set<Part> parts = EnumSet.of(Part.SAVED, due);
        check.is(side + call + " changes", changed(state, made), parts);
    }

    private Set<Part> changed(Supplier<MagpieRuns> state, Function<MagpieRuns, Object> made) {
        MagpieRuns x = state.get();
        made.apply(x);
        return Part.unlike(Part.shown(side, state.get()), Part.shown(side, x));
    }

    /** A call that changes nothing at all, neither saved states nor the snapshot, at each moment. */
    private void changesNothing(String call, Function<MagpieRuns, Object> made) {
        Map<String, Supplier<MagpieRuns>> moments = new LinkedHashMap<>();
        moments.put("ahead of a roll", this::aheadOfRoll);
        moments.put("behind a roll", this::behindRoll);
        moments.put("when a double is offered", this::offered);
        moments.put("when the game is over", this::dropped);
        for (Map.Entry<String, Supplier<MagpieRuns>> moment : moments.entrySet()) {
            check.is(side + call + " " + moment.getKey() + " changes", changed(moment.getValue(), made),
                    EnumSet.noneOf(Part.class));
            leavesTheRest(call + " " + moment.getKey(), moment.getValue(), made, NOTHING);
        }
    }

    /** Behind the call and these others, all is as in an object without the call. */
    private void leavesTheRest(String call, Supplier<MagpieRuns> state, Function<MagpieRuns, Object> made,
            Function<MagpieRuns, Object> others) {
        MagpieRuns x = state.get();
        MagpieRuns without = state.get();
        made.apply(x);
        others.apply(x);
        others.apply(without);
        check.is(side + call + " leaves the rest", Whole.everything(x), Whole.everything(without));
    }

    private void theGame() {
        changes("roll", this::aheadOfRoll, x -> x.roll(4, 3), Part.PHASE, Part.DICE);
        changes("step", this::behindRoll, x -> side.step(x, 0, 4), Part.MINE, Part.DICE);
        changes("step that hits", this::aheadOfHit, x -> side.step(x, 4, 4), Part.MINE, Part.THEIRS,
                Part.DICE, Part.THEIR_HITS);
        changes("step that wins", this::aheadOfLast, x -> side.step(x, 14, 2), Part.MINE, Part.DICE,
                Part.PHASE, Part.MY_SCORE);
        changes("endTurn", this::diceUsed, MagpieRuns::endTurn, Part.MOVER, Part.PHASE);
        changes("carry of mine", this::aheadOfRoll, x -> x.carry(side.me, side.at(0), side.at(1)), Part.MINE);
        changes("carry of theirs", this::aheadOfRoll, x -> x.carry(side.other, side.at(13), -1), Part.THEIRS);
        changes("carry to the same place", this::aheadOfRoll, x -> x.carry(side.me, side.at(0), side.at(0)));
    }

    private void theStake() {
        changes("offer", this::aheadOfRoll, MagpieRuns::offer, Part.PHASE);
        changes("take", this::offered, MagpieRuns::take, Part.PHASE, Part.STAKE, Part.CUBE);
        changes("drop", this::offered, MagpieRuns::drop, Part.PHASE, Part.MY_SCORE);
        changes("newGame", this::dropped, MagpieRuns::newGame, Part.MOVER, Part.PHASE, Part.STAKE, Part.CUBE,
                Part.MINE, Part.THEIRS);
    }

    private void texts() {
        check.is(side + "append changes", changed(this::aheadOfRoll, x -> x.append('x')), EnumSet.of(Part.BUFFER));
        check.is(side + "clearBuffer changes", changed(this::aheadOfRoll, MagpieRuns::clearBuffer),
                EnumSet.of(Part.BUFFER));
        leavesTheRest("append", this::aheadOfRoll, x -> x.append('x'), MagpieRuns::clearBuffer);
        leavesTheRest("clearBuffer", this::aheadOfRoll, MagpieRuns::clearBuffer, MagpieRuns::clearBuffer);
        check.is(side + "play without a stop changes", changed(this::aheadOfRoll, x -> Boards.play(x, "r43")),
                EnumSet.of(Part.PHASE, Part.DICE, Part.STOP, Part.BUFFER, Part.SAVED));
        check.is(side + "play that stops changes", changed(this::aheadOfRoll, x -> Boards.play(x, "r43;n")),
                EnumSet.of(Part.PHASE, Part.DICE, Part.STOP, Part.BUFFER, Part.SAVED));
        check.is(side + "play that stops at its beginning changes",
                changed(this::aheadOfRoll, x -> Boards.play(x, "n")),
                EnumSet.of(Part.STOP, Part.BUFFER, Part.SAVED));
    }

    private void past() {
        leavesTheRest("keep, but for the snapshot,", this::aheadOfRoll, MagpieRuns::keep, MagpieRuns::keep);
        check.is(side + "keep changes", changed(this::aheadOfRoll, MagpieRuns::keep), EnumSet.noneOf(Part.class));
        leavesTheRest("restore and undo", this::behindRoll, x -> x.restore() + x.undo(), NOTHING);
        Set<Part> ofRestore = changed(this::behindRoll, MagpieRuns::restore);
        check.is(side + "restore leaves the buffer", ofRestore.contains(Part.BUFFER), false);
        check.is(side + "restore changes the stop", ofRestore.contains(Part.STOP), true);
        check.is(side + "undo of a roll changes", changed(this::behindRoll, MagpieRuns::undo),
                EnumSet.of(Part.PHASE, Part.DICE, Part.SAVED));
        check.is(side + "undo of a play changes", changed(this::aheadOfRoll, MagpieRuns::undo),
                EnumSet.of(Part.MOVER, Part.THEIRS, Part.STOP, Part.SAVED));
        check.is(side + "undo leaves the snapshot", snapshotBehind(MagpieRuns::undo), snapshotBehind(NOTHING));
        check.is(side + "restore leaves the snapshot", snapshotBehind(MagpieRuns::restore), snapshotBehind(NOTHING));
    }

    private String snapshotBehind(Function<MagpieRuns, Object> made) {
        MagpieRuns x = behindRoll();
        made.apply(x);
        x.restore();
        return Whole.state(x);
    }

    private Map<String, Function<MagpieRuns, Object>> looks() {
        Map<String, Function<MagpieRuns, Object>> looks = new LinkedHashMap<>();
        looks.put("firstError", MagpieRuns::firstError);
        looks.put("play of a text that is no game", x -> Check.outcome(x::play));
        looks.put("hasStopped", MagpieRuns::hasStopped);
        looks.put("stoppedPart", MagpieRuns::stoppedPart);
        looks.put("savedStates", MagpieRuns::savedStates);
        looks.put("the looks at the run", Whole::state);
        looks.put("pips", x -> x.pips(0) + x.pips(1));
        looks.put("blots", x -> x.blots(0) + x.blots(1));
        looks.put("blockade", x -> x.blockade(0) + x.blockade(1));
        looks.put("whyNoStep", x -> x.whyNoStep(side.at(0), 4) + x.whyNoStep(-1, 6));
        looks.put("possibleSteps", MagpieRuns::possibleSteps);
        looks.put("reach", MagpieRuns::reach);
        looks.put("plays", MagpieRuns::plays);
        looks.put("playsByOrders", MagpieRuns::playsByOrders);
        looks.put("playsWith", x -> x.playsWith(2, 2) + x.playsWith(6, 1));
        looks.put("shots", x -> x.shots(side.at(13)) + x.shotsByKinds(side.at(13)));
        looks.put("entering", x -> x.entering(0) + x.entering(1));
        looks.put("blotsBehind", x -> Check.outcome(() -> x.blotsBehind(side.at(0), 4)));
        looks.put("lead", MagpieRuns::lead);
        looks.put("digest", MagpieRuns::digest);
        return looks;
    }
}
