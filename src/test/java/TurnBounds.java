import java.util.Set;

/** The sentences of the promises 2 to 5: roll, step, endTurn, carry. */
final class TurnBounds {
    private static final int BAR = Boards.BAR;
    private static final int OFF = Boards.OFF;
    private static final int[] NO_DICE = {0, 7, -1, Integer.MIN_VALUE, Integer.MAX_VALUE};
    private static final int[] WASTE = {0, 13, 15, 15, 15, 15};
    private static final int[] BLOCKS = {1, 1, 3, 3, 5, 5};

    private final Sentences doc;
    private final Check check;

    TurnBounds(Sentences sentences) {
        doc = sentences;
        check = sentences.check;
    }

    void all() {
        roll();
        step();
        endTurn();
        carry();
    }

    private void roll() {
        doc.says("Promise 2", "Rolls dice.", this::rolls);
        doc.says("Promise 2", "Undoable.", () -> check.undoable("roll",
                Moment.AHEAD_OF_A_ROLL::made, x -> x.roll(3, 3)));
        doc.says("Promise 2", "`first`: 1 to 6", this::firstDie);
        doc.says("Promise 2", "`second`: 1 to 6", this::secondDie);
        doc.says("Promise 2", "Returns how many dice are left then, 2 or 4.", this::twoOrFour);
        doc.says("Promise 2", "if first or second is out of range", this::rollsOutOfRange);
        doc.says("Promise 2", "if there was a roll in this turn, a double is offered, or the game is over",
                () -> check.refusedIn(Moment.allBut(Moment.AHEAD_OF_A_ROLL), "roll(1, 2)", x -> x.roll(1, 2)));
    }

    private void rolls() {
        MagpieRuns x = new MagpieRuns();
        x.roll(5, 2);
        check.is("phase behind a roll", x.phase(), 1);
        check.is("the mover behind a roll", x.mover(), 0);
        check.is("dice", x.dieLeft(0) * 10 + x.dieLeft(1), 52);
        check.is("no piece has moved", x.pips(0) + x.pips(1), 148);
        MagpieRuns taken = Moment.DOUBLE_OFFERED.made();
        taken.take();
        check.is("a roll behind taking", taken.roll(5, 2), 2);
    }

    private void firstDie() {
        for (int first = 1; first <= 6; first++) {
            int die = first;
            check.answers("roll(" + first + ", 1)", new MagpieRuns(), x -> x.roll(die, 1));
            check.answers("roll(" + first + ", 6)", new MagpieRuns(), x -> x.roll(die, 6));
        }
        for (int die : NO_DICE) {
            check.refused("roll(" + die + ", 1)", Moment.AHEAD_OF_A_ROLL::made, Check.ARGUMENT, x -> x.roll(die, 1));
        }
    }

    private void secondDie() {
        for (int second = 1; second <= 6; second++) {
            int die = second;
            check.answers("roll(1, " + second + ")", new MagpieRuns(), x -> x.roll(1, die));
            check.answers("roll(6, " + second + ")", new MagpieRuns(), x -> x.roll(6, die));
        }
        for (int die : NO_DICE) {
            check.refused("roll(6, " + die + ")", Moment.AHEAD_OF_A_ROLL::made, Check.ARGUMENT, x -> x.roll(6, die));
        }
    }

    private void twoOrFour() {
        for (int first = 1; first <= 6; first++) {
            for (int second = 1; second <= 6; second++) {
                check.is("roll", new MagpieRuns().roll(first, second), first == second ? 4 : 2);
            }
        }
    }

    /** In each moment: the argument is looked at ahead of the state. */
    private void rollsOutOfRange() {
        for (Moment moment : Moment.values()) {
            for (int die : NO_DICE) {
                check.refused("roll(" + die + ", 2) " + moment, moment::made, Check.ARGUMENT, x -> x.roll(die, 2));
                check.refused("roll(2, " + die + ") " + moment, moment::made, Check.ARGUMENT, x -> x.roll(2, die));
                check.refused("roll of " + die + " twice " + moment, moment::made, Check.ARGUMENT, x -> x.roll(die, die));
            }
        }
    }

    private void step() {
        doc.says("Promise 3", "Makes a step.", this::makesStep);
        doc.says("Promise 3", "Undoable.", this::stepIsUndoable);
        doc.says("Promise 3", "`from`: the point, 0 to 15; -1 for the bar", this::froms);
        doc.says("Promise 3", "`die`: 1 to 6", this::stepsByEachDie);
        doc.says("Promise 3", "Returns true if a piece is hit.", this::stepHits);
        doc.says("Promise 3", "if there is no such point", this::stepFromNoPoint);
        doc.says("Promise 3", "if die is out of range", this::stepByNoDie);
        doc.says("Promise 3", "if the step is not possible", this::stepNotPossible);
    }

    private void makesStep() {
        for (Side side : Side.BOTH) {
            MagpieRuns x = side.rolled(Side.START_MINE, Side.START_THEIRS, 3, 1);
            side.step(x, 4, 3);
            check.is(side + "from", side.mineOn(x, 4), 1);
            check.is(side + "to", side.mineOn(x, 7), 3);
            check.is(side + "pips of the mover", x.pips(side.me), 71);
            check.is(side + "pips of the other one", x.pips(side.other), 74);
            check.is(side + "dice", x.diceLeft() * 10 + x.dieLeft(0), 11);
            check.is(side + "phase", x.phase(), 1);
            check.is(side + "mover", x.mover(), side.me);
        }
    }

    private void stepIsUndoable() {
        check.undoable("step", Moment.BEHIND_A_ROLL::made, x -> x.step(0, 2));
        check.undoable("a step that hits", TurnBounds::aheadOfHit, x -> x.step(7, 2));
        check.is("that step hits", aheadOfHit().step(7, 2), true);
        check.undoable("the step that wins", TurnBounds::aheadOfWin, x -> x.step(15, 6));
        MagpieRuns won = aheadOfWin();
        won.step(15, 6);
        check.is("that step wins", won.phase(), 3);
    }

    private static MagpieRuns aheadOfHit() {
        MagpieRuns x = new MagpieRuns();
        x.carry(1, 8, 9);
        x.roll(2, 1);
        return x;
    }

    /** Four states are saved ahead of the last step, so that undo can be told apart from dropping. */
    private static MagpieRuns aheadOfWin() {
        MagpieRuns x = Boards.with(Boards.at(15, OFF, OFF, OFF, OFF, OFF), Boards.at(0, 0, 1, 1, 2, 3));
        x.roll(6, 5);
        x.undo();
        x.undo();
        x.roll(6, 5);
        return x;
    }

    private void froms() {
        for (Side side : Side.BOTH) {
            int[] mine = {0, 14, 14, 15, 15, 15};
            int[] theirs = {8, 8, 9, 9, 10, 10};
            check.is(side + "from the first point", side.step(side.rolled(mine, theirs, 1, 1), 0, 1), false);
            int[] home = {14, 14, 14, 15, 15, 15};
            MagpieRuns last = side.rolled(home, theirs, 1, 1);
            check.is(side + "from the last point", side.step(last, 15, 1), false);
            check.is(side + "off", last.borneOff(side.me), 1);
            MagpieRuns bar = side.rolled(Boards.at(BAR, 14, 14, 15, 15, 15), theirs, 1, 1);
            check.is(side + "from the bar", bar.step(BAR, 1), false);
            check.is(side + "the bar is empty", bar.onBar(side.me), 0);
        }
    }

    private void stepsByEachDie() {
        for (Side side : Side.BOTH) {
            for (int die = 1; die <= 6; die++) {
                MagpieRuns x = side.rolled(Boards.at(0, 0, 0, 0, 0, 0), Boards.at(15, 15, 15, 15, 15, 15), die, die);
                side.step(x, 0, die);
                check.is(side + "a step by " + die, side.mineOn(x, die), 1);
            }
        }
        for (int die : NO_DICE) {
            check.refused("step(0, " + die + ")", Moment.BEHIND_A_ROLL::made, Check.ARGUMENT, x -> x.step(0, die));
        }
    }

    private void stepHits() {
        for (Side side : Side.BOTH) {
            int[] mine = {3, 3, 3, 3, 3, 3};
            check.is(side + "onto a free point", side.step(side.rolled(mine, Boards.at(4, 4, 6, 6, 7, 7), 2, 2), 3, 2), false);
            check.is(side + "onto a blot", side.step(side.rolled(mine, Boards.at(4, 4, 5, 6, 7, 7), 2, 2), 3, 2), true);
            check.is(side + "onto an own blot", side.step(side.rolled(Boards.at(3, 3, 3, 3, 3, 5), Boards.at(4, 4, 6, 6, 7, 7), 2, 2), 3, 2), false);
            int[] bar = {BAR, 3, 3, 3, 3, 3};
            check.is(side + "from the bar", side.rolled(bar, Boards.at(4, 4, 6, 6, 7, 7), 2, 2).step(BAR, 2), false);
            check.is(side + "from the bar onto a blot", side.rolled(bar, Boards.at(4, 4, 1, 6, 7, 7), 2, 2).step(BAR, 2), true);
            int[] home = {15, 15, 15, 15, 15, 15};
            check.is(side + "off", side.step(side.rolled(home, Boards.at(0, 1, 2, 3, 4, 5), 6, 6), 15, 6), false);
        }
    }

    private void stepFromNoPoint() {
        for (Moment moment : Moment.values()) {
            for (int from : new int[] {-2, 16, 17, Integer.MIN_VALUE, Integer.MAX_VALUE}) {
                check.refused("step(" + from + ", 1) " + moment, moment::made, Check.BOUNDS, x -> x.step(from, 1));
                check.refused("step(" + from + ", 0) " + moment, moment::made, Check.BOUNDS, x -> x.step(from, 0));
                check.refused("step(" + from + ", 7) " + moment, moment::made, Check.BOUNDS, x -> x.step(from, 7));
            }
            for (int from : new int[] {-1, 15}) {
                check.refused("step(" + from + ", 1) " + moment, moment::made, Check.STATE, x -> x.step(from, 1));
            }
        }
        check.answers("step(0, 1)", Moment.BEHIND_A_ROLL.made(), x -> x.step(0, 1));
    }

    private void stepByNoDie() {
        for (Moment moment : Moment.values()) {
            for (int die : NO_DICE) {
                check.refused("step(0, " + die + ") " + moment, moment::made, Check.ARGUMENT, x -> x.step(0, die));
                check.refused("step(-1, " + die + ") " + moment, moment::made, Check.ARGUMENT, x -> x.step(-1, die));
            }
            check.refused("step(1, 1) " + moment, moment::made, Check.STATE, x -> x.step(1, 1));
            check.refused("step(1, 6) " + moment, moment::made, Check.STATE, x -> x.step(1, 6));
        }
    }

    private void stepNotPossible() {
        check.refusedIn(Moment.allBut(Moment.BEHIND_A_ROLL), "step(0, 1)", x -> x.step(0, 1));
        for (Side side : Side.BOTH) {
            noStep(side, WASTE, 13, 3, 1);
            noStep(side, WASTE, 12, 1, 2);
            noStep(side, Boards.at(BAR, 13, 15, 15, 15, 15), 13, 1, 3);
            noStep(side, WASTE, 0, 1, 4);
            noStep(side, WASTE, 15, 1, 5);
            noStep(side, WASTE, 13, 2, 6);
            check.answers(side + "a step that is possible", side.rolled(WASTE, BLOCKS, 2, 1), x -> side.step(x, 13, 1));
        }
    }

    private void noStep(Side side, int[] mine, int from, int die, int reason) {
        check.is(side + "reason", side.why(side.rolled(mine, BLOCKS, 2, 1), from, die), reason);
        check.refused(side + "step of reason " + reason, () -> side.rolled(mine, BLOCKS, 2, 1), Check.STATE,
                x -> side.step(x, from, die));
    }

    private void endTurn() {
        doc.says("Promise 4", "Ends the turn.", this::endsTurn);
        doc.says("Promise 4", "Undoable.", () -> check.undoable("endTurn", TurnBounds::allUsed, MagpieRuns::endTurn));
        doc.says("Promise 4", "Returns the mover then.", this::moverThen);
        doc.says("Promise 4", "if there was no roll in this turn, a step is possible, or the game is over",
                this::turnGoesOn);
    }

    private static MagpieRuns allUsed() {
        MagpieRuns x = new MagpieRuns();
        x.roll(2, 1);
        x.step(0, 2);
        x.step(0, 1);
        return x;
    }

    private void endsTurn() {
        MagpieRuns x = allUsed();
        x.endTurn();
        check.is("mover", x.mover(), 1);
        check.is("phase", x.phase(), 0);
        check.is("dice", x.diceLeft(), 0);
        check.is("a roll in the next turn", x.roll(2, 1), 2);
    }

    private void moverThen() {
        check.is("endTurn of the player 0", allUsed().endTurn(), 1);
        MagpieRuns x = allUsed();
        x.endTurn();
        x.roll(2, 1);
        x.step(15, 2);
        x.step(15, 1);
        check.is("endTurn of the player 1", x.endTurn(), 0);
    }

    private void turnGoesOn() {
        Set<Moment> refused = Moment.allBut(Moment.ALL_DICE_USED, Moment.NO_STEP_POSSIBLE);
        check.refusedIn(refused, "endTurn()", MagpieRuns::endTurn);
        for (Side side : Side.BOTH) {
            int[] mine = {0, 15, 15, 15, 15, 15};
            MagpieRuns x = side.rolled(mine, Boards.at(3, 3, 5, 5, 7, 7), 1, 2);
            check.is(side + "one step is possible", x.possibleSteps(), 1);
            check.refused(side + "endTurn with one step", () -> side.rolled(mine, Boards.at(3, 3, 5, 5, 7, 7), 1, 2),
                    Check.STATE, MagpieRuns::endTurn);
            MagpieRuns none = side.rolled(mine, Boards.at(1, 1, 2, 2, 7, 7), 1, 2);
            check.is(side + "endTurn with no step", none.endTurn(), side.other);
        }
    }

    private void carry() {
        doc.says("Promise 5", "Moves a piece by hand, from anywhere to anywhere (nothing is hit).", this::anywhere);
        doc.says("Promise 5", "Undoable.", () -> check.undoable("carry",
                Moment.AHEAD_OF_A_ROLL::made, x -> x.carry(1, 11, OFF)));
        doc.says("Promise 5", "`player`: 0 or 1", this::carriesOfBoth);
        doc.says("Promise 5", "`from`: the point, 0 to 15; -1 for the bar; 16 for off", this::carriesFrom);
        doc.says("Promise 5", "`to`: likewise", this::carriesTo);
        doc.says("Promise 5", "Returns the pips of the player then.", this::pipsThen);
        doc.says("Promise 5", "if there is no such player, or from or to is not -1 to 16", this::carryOutOfRange);
        doc.says("Promise 5", "if the player has no piece there", this::carryOfNothing);
        doc.says("Promise 5", "the other one has a piece on the point to", this::carryOntoOther);
        doc.says("Promise 5", "all pieces of the player would be off", this::carryOfLast);
        doc.says("Promise 5", "or there was a roll in this turn, a double is offered, or the game is over",
                this::carryOnlyAheadOfRoll);
    }

    private static MagpieRuns everywhere() {
        return Boards.with(Boards.at(0, 5, 15, BAR, OFF, OFF), Boards.at(1, 6, 14, BAR, BAR, OFF));
    }

    private static int on(MagpieRuns x, int player, int place) {
        return place == BAR ? x.onBar(player) : place == OFF ? x.borneOff(player) : x.piecesOn(player, place);
    }

    private void anywhere() {
        int[][] places = {{BAR, 0, 5, 15, OFF}, {BAR, 1, 6, 14, OFF}};
        for (int player = 0; player < 2; player++) {
            for (int from : places[player]) {
                for (int to : places[player]) {
                    MagpieRuns x = everywhere();
                    int leaving = on(x, player, from);
                    int arriving = on(x, player, to);
                    int others = x.pips(1 - player);
                    x.carry(player, from, to);
                    String call = "carry(" + player + ", " + from + ", " + to + ")";
                    check.is(call + " leaves", on(x, player, from), from == to ? leaving : leaving - 1);
                    check.is(call + " arrives", on(x, player, to), from == to ? arriving : arriving + 1);
                    check.is(call + " hits", x.hits(0) + x.hits(1), 0);
                    check.is(call + " moves another's", x.pips(1 - player), others);
                    check.is(call + ": the mover", x.mover() * 10 + x.phase(), 0);
                }
            }
        }
    }

    private void carriesOfBoth() {
        check.is("carry(0, 0, 1)", new MagpieRuns().carry(0, 0, 1), 73);
        check.is("carry(1, 15, 14)", new MagpieRuns().carry(1, 15, 14), 73);
        for (int player : new int[] {-1, 2, Integer.MIN_VALUE, Integer.MAX_VALUE}) {
            check.refused("carry(" + player + ", 0, 1)", Moment.AHEAD_OF_A_ROLL::made, Check.BOUNDS, x -> x.carry(player, 0, 1));
        }
    }

    private void carriesFrom() {
        for (int from : new int[] {BAR, 0, 15, OFF}) {
            check.answers("carry(0, " + from + ", 5)", everywhere(), x -> x.carry(0, from, 5));
        }
        for (int from : new int[] {-2, 17, Integer.MIN_VALUE, Integer.MAX_VALUE}) {
            check.refused("carry(0, " + from + ", 5)", TurnBounds::everywhere, Check.BOUNDS, x -> x.carry(0, from, 5));
        }
    }

    private void carriesTo() {
        for (int to : new int[] {BAR, 0, 15, OFF}) {
            check.answers("carry(0, 5, " + to + ")", everywhere(), x -> x.carry(0, 5, to));
        }
        for (int to : new int[] {-2, 17, Integer.MIN_VALUE, Integer.MAX_VALUE}) {
            check.refused("carry(0, 5, " + to + ")", TurnBounds::everywhere, Check.BOUNDS, x -> x.carry(0, 5, to));
        }
    }

    private void pipsThen() {
        for (int point = 0; point < 16; point++) {
            MagpieRuns x = Boards.with(Boards.at(BAR, OFF, OFF, OFF, OFF, OFF), Boards.at(BAR, BAR, OFF, OFF, OFF, OFF));
            check.is("carry(0, -1, " + point + ")", x.carry(0, BAR, point), 16 - point);
            check.is("carry(0, " + point + ", -1)", x.carry(0, point, BAR), 17);
            check.is("carry(1, -1, " + point + ")", x.carry(1, BAR, point), 17 + point + 1);
            check.is("carry(1, " + point + ", 16)", x.carry(1, point, OFF), 17);
            check.is("carry(1, 16, " + point + ")", x.carry(1, OFF, point), 17 + point + 1);
        }
    }

    private void carryOutOfRange() {
        for (Moment moment : Moment.values()) {
            int[][] wrong = {{-1, 0, 1}, {2, 0, 1}, {0, -2, 1}, {0, 17, 1}, {0, 0, -2}, {0, 0, 17}, {2, -2, 17},
                {1, 15, 17}, {1, -2, 15}, {0, 1, 17}, {0, 17, 17}, {-1, 1, 8}};
            for (int[] a : wrong) {
                check.refused("carry(" + a[0] + ", " + a[1] + ", " + a[2] + ") " + moment, moment::made, Check.BOUNDS,
                        x -> x.carry(a[0], a[1], a[2]));
            }
        }
    }

    private void carryOfNothing() {
        for (Side side : Side.BOTH) {
            for (int count = 0; count <= 2; count++) {
                int[] mine = {1, 1, 1, 1, 1, 1};
                java.util.Arrays.fill(mine, 0, count, 3);
                carries(side, mine, Boards.at(7, 7, 7, 7, 7, 7), 3, 4, count > 0);
                java.util.Arrays.fill(mine, 0, count, BAR);
                carries(side, mine, Boards.at(7, 7, 7, 7, 7, BAR), BAR, 4, count > 0);
                java.util.Arrays.fill(mine, 0, count, OFF);
                carries(side, mine, Boards.at(7, 7, 7, 7, 7, OFF), OFF, 4, count > 0);
            }
            carries(side, Boards.at(1, 1, 1, 1, 1, 1), Boards.at(7, 7, 7, 7, 7, 7), 7, 8, false);
            carries(side, Boards.at(1, 1, 1, 1, 1, 1), Boards.at(7, 7, 7, 7, 7, 7), 3, 3, false);
            carries(side, Boards.at(1, 1, 1, 1, 1, 1), Boards.at(7, 7, 7, 7, 7, 7), 1, 1, true);
        }
    }

    private void carries(Side side, int[] mine, int[] theirs, int from, int to, boolean may) {
        int[] own = mine.clone();
        String call = side + "carry from " + from + " to " + to + " of " + java.util.Arrays.toString(mine);
        if (may) {
            check.answers(call, side.board(own, theirs), x -> x.carry(side.me, side.at(from), side.at(to)));
        } else {
            check.refused(call, () -> side.board(own, theirs), Check.STATE, x -> x.carry(side.me, side.at(from), side.at(to)));
        }
    }

    private void carryOntoOther() {
        for (Side side : Side.BOTH) {
            int[] mine = {1, 1, BAR, OFF, 1, 1};
            for (int count = 0; count <= 3; count++) {
                int[] theirs = {9, 9, 9, 9, BAR, OFF};
                java.util.Arrays.fill(theirs, 0, count, 4);
                carries(side, mine, theirs, 1, 4, count == 0);
                carries(side, mine, theirs, BAR, 4, count == 0);
                carries(side, mine, theirs, OFF, 4, count == 0);
                carries(side, mine, theirs, 1, BAR, true);
                carries(side, mine, theirs, 1, OFF, true);
            }
            carries(side, mine, Boards.at(0, 0, 0, 0, 0, 0), 1, 0, false);
            carries(side, mine, Boards.at(15, 15, 15, 15, 15, 15), 1, 15, false);
        }
    }

    private void carryOfLast() {
        for (Side side : Side.BOTH) {
            int[] theirs = {0, 0, 0, 0, 0, 0};
            carries(side, Boards.at(OFF, OFF, OFF, OFF, 15, 15), theirs, 15, OFF, true);
            carries(side, Boards.at(OFF, OFF, OFF, OFF, OFF, 15), theirs, 15, OFF, false);
            carries(side, Boards.at(OFF, OFF, OFF, OFF, OFF, BAR), theirs, BAR, OFF, false);
            carries(side, Boards.at(OFF, OFF, OFF, OFF, OFF, 15), theirs, OFF, OFF, true);
            carries(side, Boards.at(OFF, OFF, OFF, OFF, OFF, 15), theirs, 15, BAR, true);
            carries(side, Boards.at(OFF, OFF, OFF, OFF, OFF, 15), Boards.at(OFF, OFF, OFF, OFF, OFF, 0), 15, 14, true);
            MagpieRuns x = side.board(Boards.at(OFF, OFF, OFF, OFF, OFF, 15), Boards.at(OFF, OFF, OFF, OFF, OFF, 0));
            check.raises(side + "the other's last", x, Check.STATE, () -> x.carry(side.other, side.at(0), OFF));
        }
    }

    private void carryOnlyAheadOfRoll() {
        Set<Moment> refused = Moment.allBut(Moment.AHEAD_OF_A_ROLL);
        check.refusedIn(refused, "carry of the mover", x -> carryFirst(x, 0));
        check.refusedIn(refused, "carry of the other one", x -> carryFirst(x, 1));
        MagpieRuns taken = Moment.DOUBLE_OFFERED.made();
        taken.take();
        check.answers("carry behind taking", taken, x -> carryFirst(x, 0));
    }

    /** A carry that only the moment can forbid: of a piece of the player, wherever there is one. */
    private static int carryFirst(MagpieRuns x, int player) {
        int from = OFF;
        for (int point = 0; point < 16; point++) {
            from = x.piecesOn(player, point) > 0 ? point : from;
        }
        return x.carry(player, from, BAR);
    }
}
