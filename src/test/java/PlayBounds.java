import java.util.Arrays;

/** The sentences on plays and shots, and the promises 37 to 43. */
final class PlayBounds {
    private static final int BAR = Boards.BAR;
    private static final int OFF = Boards.OFF;
    private static final int[] ALONE = {0, OFF, OFF, OFF, OFF, OFF};
    private static final int[] FAR = {15, 15, 15, 14, 14, 14};
    private static final int[] NO_POINTS = {-1, 16, Integer.MIN_VALUE, Integer.MAX_VALUE};
    private static final int[] NO_DICE = {0, 7, -1, Integer.MIN_VALUE, Integer.MAX_VALUE};

    private final Sentences doc;
    private final Check check;

    PlayBounds(Sentences sentences) {
        doc = sentences;
        check = sentences.check;
    }

    void all() {
        String section = "Plays, shots";
        doc.says(section, "A play of some dice is a row of steps of the mover, each possible", this::eachPossible);
        doc.says(section, "until no step is possible any more", this::untilNoStep);
        doc.says(section, "Two plays are alike, if all pieces are at the same places behind them.", this::alike);
        doc.says(section, "for two unlike dice both orders are tried", this::bothOrders);
        doc.says(section, "the next die of the order is used, if a step with it is possible, otherwise the other one",
                this::otherwiseTheOther);
        doc.says(section, "A shot at a blot is one of the 36 rolls", this::noneToAllRolls);
        doc.says(section, "if that one was the mover now", this::otherPlayerOfBlot);
        doc.says(section, "could make steps, one behind the other, each allowed", this::eachAllowed);
        doc.says(section, "(the reason 6 does not matter)", this::reasonSixDoesNotMatter);
        doc.says(section, "one of which hits it", this::oneOfWhichHits);
        plays();
        shots();
        blotsBehind();
    }

    private void plays() {
        doc.says("Promise 37", "the number of plays of the dice that are left, of which no two are alike", this::counts);
        doc.says("Promise 37", "1 without dice left (that without steps)", this::withoutDice);
        doc.says("Promise 38", "Returns the same, told by orders.", this::sameByOrders);
        doc.says("Promise 39", "that the mover would have with a roll, as the pieces are", this::withRoll);
        doc.says("Promise 39", "`first`: 1 to 6", () -> dieOfPlays(true));
        doc.says("Promise 39", "`second`: 1 to 6", () -> dieOfPlays(false));
        doc.says("Promise 39", "Returns how many.", this::oneToMany);
        doc.says("Promise 39", "if first or second is out of range", this::playsOutOfRange);
    }

    private void shots() {
        doc.says("Promise 40", "Returns the number of shots at a blot, told roll by roll.", this::noneToAllRolls);
        doc.says("Promise 40", "`point`: 0 to 15", () -> eachPoint(false));
        doc.says("Promise 40", "0 if there is no blot", () -> noBlot(false));
        doc.says("Promise 40", "if there is no such point", () -> shotsAtNoPoint(false));
        doc.says("Promise 41", "the 21 kinds of rolls, of which those with two unlike dice count twice", this::kinds);
        doc.says("Promise 41", "`point`: 0 to 15", () -> eachPoint(true));
        doc.says("Promise 41", "0 if there is no blot", () -> noBlot(true));
        doc.says("Promise 41", "if there is no such point", () -> shotsAtNoPoint(true));
        doc.says("Promise 42", "with how many of the 36 rolls a player could enter a piece", this::closed);
        doc.says("Promise 42", "that is on the bar, or would be", this::onBarOrNot);
        doc.says("Promise 42", "`player`: 0 or 1", this::enteringOfBoth);
        doc.says("Promise 42", "Returns how many.", this::enteringFromAllToFew);
        doc.says("Promise 42", "if there is no such player", this::enteringOfNobody);
    }

    private void blotsBehind() {
        doc.says("Promise 43", "Returns the number of blots that the mover would have behind a step.", this::blotsOfMover);
        doc.says("Promise 43", "`from`: the point, 0 to 15; -1 for the bar", this::blotsFrom);
        doc.says("Promise 43", "`die`: 1 to 6", this::blotsByEachDie);
        doc.says("Promise 43", "Returns how many.", this::zeroToSixBlots);
        doc.says("Promise 43", "if there is no such point", this::blotsFromNoPoint);
        doc.says("Promise 43", "if die is out of range", this::blotsByNoDie);
        doc.says("Promise 43", "if the step is not possible", this::blotsBehindNoStep);
    }

    /** The plays of a roll, told in all three ways. */
    private void plays(Side side, int[] mine, int[] theirs, int first, int second, int due) {
        String call = side + "plays of " + first + ", " + second + " from " + Arrays.toString(mine)
                + " against " + Arrays.toString(theirs);
        MagpieRuns x = side.board(mine, theirs);
        check.is(call + ", as it would be", x.playsWith(first, second), due);
        x.roll(first, second);
        check.is(call, x.plays(), due);
        check.is(call + ", by orders", x.playsByOrders(), due);
    }

    private void eachPossible() {
        for (Side side : Side.BOTH) {
            int[] blocks = {1, 1, 3, 3, 5, 5};
            plays(side, Boards.at(0, 13, 15, 15, 15, 15), blocks, 2, 1, 1);
            plays(side, Boards.at(0, 13, 15, 15, 15, 15), Boards.at(9, 9, 3, 3, 5, 5), 2, 1, 2);
            plays(side, Boards.at(0, 15, 15, 15, 15, 15), Boards.at(3, 3, 5, 5, 7, 7), 1, 2, 1);
            plays(side, Boards.at(13, OFF, OFF, OFF, OFF, OFF), blocks, 5, 1, 1);
            plays(side, Boards.at(0, 13, OFF, OFF, OFF, OFF), Boards.at(2, 2, 3, 3, 15, 15), 1, 2, 2);
        }
    }

    private void untilNoStep() {
        for (Side side : Side.BOTH) {
            for (int block = 1; block <= 6; block++) {
                int[] theirs = {block, block, block, block, block, block};
                plays(side, ALONE, theirs, 1, 1, 1);
            }
            plays(side, ALONE, Boards.at(1, 1, 2, 2, 9, 9), 1, 2, 1);
            plays(side, ALONE, Boards.at(3, 3, 9, 9, 9, 9), 1, 2, 1);
            plays(side, ALONE, FAR, 1, 2, 1);
            plays(side, Boards.at(0, 3, OFF, OFF, OFF, OFF), FAR, 1, 2, 4);
            plays(side, Boards.at(0, 5, OFF, OFF, OFF, OFF), FAR, 1, 1, 5);
            plays(side, Boards.at(15, 15, OFF, OFF, OFF, OFF), Boards.at(0, 0, 1, 1, 2, 2), 1, 1, 1);
            plays(side, Boards.at(14, 15, OFF, OFF, OFF, OFF), Boards.at(0, 0, 1, 1, 2, 2), 1, 2, 2);
            plays(side, Boards.at(12, 15, OFF, OFF, OFF, OFF), Boards.at(0, 0, 1, 1, 2, 2), 1, 2, 2);
        }
    }

    private void alike() {
        for (Side side : Side.BOTH) {
            plays(side, ALONE, FAR, 2, 1, 1);
            plays(side, ALONE, Boards.at(1, 15, 15, 15, 14, 14), 1, 2, 2);
            plays(side, ALONE, Boards.at(2, 15, 15, 15, 14, 14), 1, 2, 2);
            plays(side, ALONE, Boards.at(1, 2, 15, 15, 14, 14), 1, 2, 2);
            plays(side, ALONE, Boards.at(3, 15, 15, 15, 14, 14), 1, 2, 1);
            plays(side, Boards.at(0, 0, OFF, OFF, OFF, OFF), FAR, 1, 2, 2);
            plays(side, Boards.at(0, 1, OFF, OFF, OFF, OFF), FAR, 1, 2, 3);
        }
    }

    private void byOrders(Side side, int[] mine, int[] theirs, int first, int second, int due) {
        check.is(side + "by orders", side.rolled(mine, theirs, first, second).playsByOrders(), due);
        check.is(side + "by orders, rolled the other way round",
                side.rolled(mine, theirs, second, first).playsByOrders(), due);
        check.is(side + "step by step", side.rolled(mine, theirs, first, second).plays(), due);
    }

    /** Only by one order a blot is hit on the way: one order alone would find one play. */
    private void bothOrders() {
        for (Side side : Side.BOTH) {
            byOrders(side, ALONE, Boards.at(1, 15, 15, 15, 14, 14), 1, 2, 2);
            byOrders(side, ALONE, Boards.at(2, 15, 15, 15, 14, 14), 1, 2, 2);
            byOrders(side, ALONE, FAR, 1, 2, 1);
            byOrders(side, Boards.at(BAR, 5, OFF, OFF, OFF, OFF), FAR, 1, 3, 3);
            byOrders(side, ALONE, FAR, 2, 2, 1);
        }
    }

    /** By the first die of the order there is no step at first: without the other one the play is short. */
    private void otherwiseTheOther() {
        for (Side side : Side.BOTH) {
            byOrders(side, ALONE, Boards.at(1, 1, 15, 15, 14, 14), 1, 2, 1);
            byOrders(side, ALONE, Boards.at(2, 2, 15, 15, 14, 14), 1, 2, 1);
            byOrders(side, ALONE, Boards.at(1, 1, 3, 3, 14, 14), 1, 2, 1);
            byOrders(side, ALONE, Boards.at(3, 3, 15, 15, 14, 14), 1, 2, 1);
            byOrders(side, Boards.at(BAR, 8, OFF, OFF, OFF, OFF), Boards.at(0, 0, 15, 15, 14, 14), 1, 2, 2);
            byOrders(side, Boards.at(0, 13, 15, 15, 15, 15), Boards.at(1, 1, 3, 3, 5, 5), 2, 1, 1);
        }
    }

    private void shot(String call, MagpieRuns x, int point, int due) {
        check.is(call + ": shots(" + point + ")", x.shots(point), due);
        check.is(call + ": shotsByKinds(" + point + ")", x.shotsByKinds(point), due);
    }

    /** A shot of the pieces called mine at the blot on a point, whoever is the mover. */
    private void shotAt(int[] mine, int[] theirs, int point, int due) {
        for (Side side : Side.BOTH) {
            String call = side + Arrays.toString(mine) + " at " + Arrays.toString(theirs);
            MagpieRuns x = side.board(mine, theirs);
            shot(call, x, side.at(point), due);
            x.roll(6, 6);
            shot(call + " behind a roll", x, side.at(point), due);
        }
    }

    private void noneToAllRolls() {
        int[] far = {9, 8, 8, 8, 8, 8};
        shotAt(Boards.at(10, 10, 11, 12, 13, 14), far, 9, 0);
        shotAt(Boards.at(8, 15, 15, 15, 15, 15), Boards.at(9, 7, 7, 7, 7, 7), 9, 11);
        shotAt(Boards.at(3, 15, 15, 15, 15, 15), Boards.at(9, 7, 7, 5, 5, 6), 9, 11 + 2 + 1);
        shotAt(Boards.at(3, 4, 5, 6, 7, 15), Boards.at(9, 0, 0, 0, 0, 0), 9, 35 + 1);
        shotAt(Boards.at(4, 5, 6, 7, 8, 15), Boards.at(9, 0, 0, 0, 0, 0), 9, 35);
        shotAt(Boards.at(3, 4, 5, 6, 7, 8), Boards.at(9, 0, 0, 0, 0, 0), 9, 36);
    }

    private void otherPlayerOfBlot() {
        for (Side side : Side.BOTH) {
            MagpieRuns x = side.board(Boards.at(9, 14, 14, 14, 14, 14), Boards.at(13, 1, 1, 1, 1, 1));
            shot(side + "at the blot of the mover", x, side.at(9), 11 + 2 + 1 + 1);
            shot(side + "at the blot of the other one", x, side.at(13), 11 + 2 + 1 + 1);
            x.offer();
            shot(side + "while a double is offered", x, side.at(9), 15);
            x.drop();
            shot(side + "with the game over", x, side.at(13), 15);
        }
    }

    private void eachAllowed() {
        shotAt(Boards.at(0, 15, 15, 15, 15, 15), Boards.at(6, 8, 8, 8, 8, 8), 6, 17);
        shotAt(Boards.at(0, 15, 15, 15, 15, 15), Boards.at(6, 4, 4, 8, 8, 8), 6, 16);
        shotAt(Boards.at(0, 15, 15, 15, 15, 15), Boards.at(6, 4, 4, 2, 2, 8), 6, 11 + 2 + 1);
        shotAt(Boards.at(BAR, 0, 15, 15, 15, 15), Boards.at(6, 8, 8, 8, 8, 8), 6, 11 + 4 + 2);
        shotAt(Boards.at(BAR, 4, 15, 15, 15, 15), Boards.at(6, 0, 0, 1, 1, 9), 6, 8 + 4);
        for (int count = 0; count <= 5; count++) {
            int[] theirs = {6, 13, 13, 13, 13, 13};
            Arrays.fill(theirs, 1, 1 + count, 2);
            shotAt(Boards.at(BAR, 4, 15, 15, 15, 15), theirs, 6, count < 2 ? 11 + 2 + 2 + 1 : 9 + 2 + 2 + 1);
        }
        shotAt(Boards.at(BAR, BAR, BAR, 4, 15, 15), Boards.at(6, 9, 9, 9, 9, 9), 6, 1);
        shotAt(Boards.at(BAR, BAR, BAR, BAR, BAR, 4), Boards.at(6, 9, 9, 9, 9, 9), 6, 0);
    }

    /** On the first board only 2 is possible, on the second the step by 2 would waste the 1. */
    private void reasonSixDoesNotMatter() {
        int[] one = {0, 15, 15, 15, 15, 15};
        int[] ahead = {1, 3, 3, 4, 4, 5};
        int[] two = {0, 13, OFF, OFF, OFF, OFF};
        int[] atEnd = {15, 1, 1, 3, 3, 5};
        for (Side side : Side.BOTH) {
            check.is(side + "a step that hits", side.why(side.rolled(one, ahead, 1, 2), 0, 1), 6);
            check.is(side + "another step that hits", side.why(side.rolled(two, atEnd, 2, 1), 13, 2), 6);
        }
        shotAt(one, ahead, 1, 11);
        shotAt(two, atEnd, 15, 11 + 1 + 1);
    }

    private void oneOfWhichHits() {
        int[] one = {0, 15, 15, 15, 15, 15};
        shotAt(one, Boards.at(1, 8, 8, 8, 8, 8), 1, 11);
        shotAt(one, Boards.at(2, 8, 8, 8, 8, 8), 2, 11 + 1);
        shotAt(one, Boards.at(3, 8, 8, 8, 8, 8), 3, 11 + 2 + 1);
        shotAt(one, Boards.at(4, 8, 8, 8, 8, 8), 4, 11 + 2 + 1 + 1);
        shotAt(one, Boards.at(12, 8, 8, 8, 8, 8), 12, 1 + 1);
        shotAt(one, Boards.at(7, 13, 13, 13, 13, 13), 7, 6);
        shotAt(one, Boards.at(11, 13, 13, 13, 13, 13), 11, 2);
        shotAt(one, Boards.at(13, 14, 14, 14, 14, 14), 13, 0);
        shotAt(Boards.at(BAR, 15, 15, 15, 15, 15), Boards.at(0, 8, 8, 8, 8, 8), 0, 11);
        shotAt(Boards.at(BAR, 15, 15, 15, 15, 15), Boards.at(5, 8, 8, 8, 8, 8), 5, 17);
        shotAt(Boards.at(BAR, BAR, 15, 15, 15, 15), Boards.at(5, 8, 8, 8, 8, 8), 5, 11 + 2);
    }

    private void counts() {
        for (Side side : Side.BOTH) {
            MagpieRuns x = side.rolled(Boards.at(0, 5, 10, OFF, OFF, OFF), Boards.at(OFF, OFF, OFF, OFF, OFF, BAR), 1, 1);
            int[] due = {15, 10, 6, 3, 1};
            for (int used = 0; used <= 4; used++) {
                check.is(side + "plays with " + (4 - used) + " dice left", x.plays(), due[used]);
                if (used < 4) {
                    side.step(x, used < 2 ? used : used == 2 ? 5 : 10, 1);
                }
            }
            MagpieRuns two = side.rolled(Boards.at(0, 3, OFF, OFF, OFF, OFF), FAR, 1, 2);
            check.is(side + "plays of two dice", two.plays(), 4);
            side.step(two, 0, 1);
            check.is(side + "plays of one die", two.plays(), 2);
            side.step(two, 1, 2);
            check.is(side + "plays without dice", two.plays(), 1);
        }
    }

    private void withoutDice() {
        for (Moment moment : Moment.values()) {
            if (moment != Moment.BEHIND_A_ROLL) {
                check.is("plays " + moment, moment.made().plays(), 1);
                check.is("playsByOrders " + moment, moment.made().playsByOrders(), 1);
            }
        }
        check.is("plays behind a roll", Moment.BEHIND_A_ROLL.made().plays() > 1, true);
    }

    private void sameByOrders() {
        for (Side side : Side.BOTH) {
            for (int first = 1; first <= 6; first++) {
                for (int second = 1; second <= 6; second++) {
                    MagpieRuns x = side.rolled(Boards.at(BAR, 0, 3, 5, 12, 14), Boards.at(2, 6, 6, 8, 9, 10), first, second);
                    check.is(side + "by orders " + first + ", " + second, x.playsByOrders(), x.plays());
                }
            }
        }
        MagpieRuns x = new MagpieRuns();
        x.roll(3, 1);
        check.is("by orders of 3, 1", x.playsByOrders(), 7);
        x.step(0, 3);
        check.is("by orders of 1", x.playsByOrders(), x.plays());
    }

    private void withRoll() {
        for (Moment moment : Moment.values()) {
            MagpieRuns x = moment.made();
            check.answers("playsWith(6, 5) " + moment, x, y -> y.playsWith(6, 5));
            check.is("it changes nothing " + moment, Whole.everything(x), Whole.everything(moment.made()));
        }
        MagpieRuns x = new MagpieRuns();
        check.is("playsWith(6, 5)", x.playsWith(6, 5), 9);
        x.roll(4, 4);
        check.is("playsWith(6, 5) behind another roll", x.playsWith(6, 5), 9);
        x.step(0, 4);
        x.step(0, 4);
        check.is("playsWith(4, 4) without a step by 4", x.playsWith(4, 4), 1);
        x.endTurn();
        check.is("playsWith(6, 5) of the player 1, with the point 0 free", x.playsWith(6, 5), 10);
        int ahead = Moment.AHEAD_OF_A_ROLL.made().playsWith(3, 1);
        check.is("playsWith while a double is offered", Moment.DOUBLE_OFFERED.made().playsWith(3, 1), ahead);
        check.is("playsWith behind a drop", Moment.DROPPED.made().playsWith(3, 1), ahead);
        check.is("playsWith of no pieces", Moment.WON.made().playsWith(3, 1), 1);
    }

    private void dieOfPlays(boolean atFirst) {
        for (int die = 1; die <= 6; die++) {
            int by = die;
            int other = die == 6 ? 5 : die + 1;
            MagpieRuns x = Boards.with(Boards.at(0, 8, OFF, OFF, OFF, OFF), Boards.at(OFF, OFF, OFF, OFF, OFF, BAR));
            int plays = atFirst ? x.playsWith(by, other) : x.playsWith(other, by);
            x.roll(atFirst ? by : other, atFirst ? other : by);
            check.is("playsWith " + die, plays, x.plays());
            check.is("there are some", plays > 1, true);
        }
        for (int die : NO_DICE) {
            check.refused("playsWith of " + die, MagpieRuns::new, Check.ARGUMENT,
                    x -> atFirst ? x.playsWith(die, 1) : x.playsWith(6, die));
        }
    }

    private void oneToMany() {
        for (Side side : Side.BOTH) {
            plays(side, Boards.at(BAR, BAR, 0, 0, 0, 0), Boards.at(1, 1, 3, 3, 9, 9), 2, 4, 1);
            plays(side, ALONE, FAR, 6, 5, 1);
            plays(side, Boards.at(0, 0, 0, 0, 0, 0), FAR, 1, 1, 5);
            plays(side, Boards.at(0, 0, 0, 8, 8, 8), FAR, 1, 1, 18);
            plays(side, Boards.at(0, 1, 2, 3, 4, 5), Boards.at(15, 15, OFF, OFF, OFF, OFF), 6, 3, 36 - 3);
        }
    }

    private void playsOutOfRange() {
        for (Moment moment : Moment.values()) {
            for (int die : NO_DICE) {
                check.refused("playsWith(" + die + ", 1) " + moment, moment::made, Check.ARGUMENT, x -> x.playsWith(die, 1));
                check.refused("playsWith(1, " + die + ") " + moment, moment::made, Check.ARGUMENT, x -> x.playsWith(1, die));
                check.refused("playsWith of " + die + " twice " + moment, moment::made, Check.ARGUMENT, x -> x.playsWith(die, die));
            }
            check.answers("playsWith(1, 6) " + moment, moment.made(), x -> x.playsWith(1, 6));
            check.answers("playsWith(6, 1) " + moment, moment.made(), x -> x.playsWith(6, 1));
        }
    }

    private static int shotsOf(MagpieRuns x, int point, boolean byKinds) {
        return byKinds ? x.shotsByKinds(point) : x.shots(point);
    }

    /** A blot on each point, with the other player one point ahead of it, or on the bar. */
    private void eachPoint(boolean byKinds) {
        for (Side side : Side.BOTH) {
            for (int point = 0; point < 16; point++) {
                int shooter = point == 0 ? BAR : point - 1;
                int block = point < 8 ? 14 : 1;
                MagpieRuns x = side.board(Boards.at(shooter, OFF, OFF, OFF, OFF, OFF), Boards.at(point, block, block, block, block, block));
                check.is(side + "a blot on " + point, shotsOf(x, side.at(point), byKinds), 11);
            }
        }
    }

    private void noBlot(boolean byKinds) {
        for (Side side : Side.BOTH) {
            for (int count = 0; count <= 6; count++) {
                int[] theirs = {BAR, BAR, BAR, BAR, BAR, BAR};
                Arrays.fill(theirs, 0, count, 5);
                MagpieRuns x = side.board(Boards.at(3, 3, 3, 3, 3, 3), theirs);
                check.is(side + "" + count + " on the point", shotsOf(x, side.at(5), byKinds), count == 1 ? 12 : 0);
                check.is(side + "six on the point", shotsOf(x, side.at(3), byKinds), 0);
                check.is(side + "none on the point", shotsOf(x, side.at(4), byKinds), 0);
            }
            MagpieRuns unreached = side.board(Boards.at(9, 9, 9, 9, 9, 9), Boards.at(5, 15, 15, 15, 15, 15));
            check.is(side + "a blot that nobody reaches", shotsOf(unreached, side.at(5), byKinds), 0);
        }
    }

    private void shotsAtNoPoint(boolean byKinds) {
        for (Moment moment : Moment.values()) {
            for (int point : NO_POINTS) {
                check.refused("shots at " + point + " " + moment, moment::made, Check.BOUNDS, x -> shotsOf(x, point, byKinds));
            }
            check.answers("shots at 0 " + moment, moment.made(), x -> shotsOf(x, 0, byKinds));
            check.answers("shots at 15 " + moment, moment.made(), x -> shotsOf(x, 15, byKinds));
        }
    }

    /** Distances at which only unlike dice, only like dice, or both hit. */
    private void kinds() {
        for (Side side : Side.BOTH) {
            int[] far = {13, 13, 13, 13, 13};
            int[] due = {0, 11, 12, 14, 15, 15, 17, 6, 6, 5, 3, 2, 3};
            for (int point = 1; point <= 12; point++) {
                int[] theirs = {point, far[0], far[1], far[2], far[3], far[4]};
                MagpieRuns x = side.board(ALONE, theirs);
                check.is(side + "by kinds at a distance of " + point, x.shotsByKinds(side.at(point)), due[point]);
                check.is(side + "roll by roll at a distance of " + point, x.shots(side.at(point)), due[point]);
            }
        }
    }

    private int enteringOf(Side side, int... theirs) {
        return side.board(Boards.at(BAR, 15, 15, 15, 15, 15), theirs).entering(side.me);
    }

    private void closed() {
        for (Side side : Side.BOTH) {
            for (int point = 0; point < 15; point++) {
                check.is(side + "a block on " + point, enteringOf(side, point, point, BAR, BAR, BAR, BAR), point < 6 ? 35 : 36);
                check.is(side + "a blot on " + point, enteringOf(side, point, BAR, BAR, BAR, BAR, BAR), 36);
                check.is(side + "six on " + point, enteringOf(side, point, point, point, point, point, point), point < 6 ? 35 : 36);
            }
            MagpieRuns own = side.board(Boards.at(0, 0, 1, 1, 5, 5), Boards.at(9, 9, 9, 9, 9, 9));
            check.is(side + "own blocks", own.entering(side.me), 36);
        }
    }

    private void onBarOrNot() {
        for (Side side : Side.BOTH) {
            int[] theirs = {0, 0, 3, 3, 7, 7};
            for (int count = 0; count <= 6; count++) {
                int[] mine = {15, 15, 15, 15, 15, 15};
                Arrays.fill(mine, 0, count, BAR);
                check.is(side + "" + count + " on the bar", side.board(mine, theirs).entering(side.me), 32);
            }
        }
        check.is("entering with all off, a block on 3", Moment.WON.made().entering(0), 35);
    }

    private void enteringOfBoth() {
        MagpieRuns x = Boards.with(Boards.at(15, 15, 14, 14, 13, 13), Boards.at(5, 5, 6, 6, 7, 7));
        check.is("entering(0)", x.entering(0), 35);
        check.is("entering(1)", x.entering(1), 27);
        for (int player : new int[] {-1, 2}) {
            check.raises("entering(" + player + ")", x, Check.BOUNDS, () -> x.entering(player));
        }
    }

    private void enteringFromAllToFew() {
        for (Side side : Side.BOTH) {
            check.is(side + "none closed", enteringOf(side, 6, 6, 7, 7, 8, 8), 36);
            check.is(side + "one closed", enteringOf(side, 5, 5, 6, 6, 7, 7), 35);
            check.is(side + "two closed", enteringOf(side, 4, 4, 5, 5, 6, 6), 32);
            check.is(side + "three closed", enteringOf(side, 3, 3, 4, 4, 5, 5), 27);
            check.is(side + "the first three closed", enteringOf(side, 0, 0, 1, 1, 2, 2), 27);
            check.is(side + "six blots", enteringOf(side, 0, 1, 2, 3, 4, 5), 36);
        }
    }

    private void enteringOfNobody() {
        for (Moment moment : Moment.values()) {
            for (int player : new int[] {-1, 2, Integer.MIN_VALUE, Integer.MAX_VALUE}) {
                check.refused("entering(" + player + ") " + moment, moment::made, Check.BOUNDS, x -> x.entering(player));
            }
            check.answers("entering(0) " + moment, moment.made(), x -> x.entering(0));
            check.answers("entering(1) " + moment, moment.made(), x -> x.entering(1));
        }
    }

    private void blots(Side side, int[] mine, int[] theirs, int from, int die, int due) {
        MagpieRuns x = side.rolled(mine, theirs, die, die);
        String call = side + "blotsBehind a step from " + from + " by " + die + " of " + Arrays.toString(mine);
        String before = Whole.state(x);
        check.is(call, x.blotsBehind(side.at(from), die), due);
        check.is(call + " changes nothing", Whole.state(x), before);
        side.step(x, from, die);
        check.is(call + ", behind it", x.blots(side.me), due);
    }

    private void blotsOfMover() {
        for (Side side : Side.BOTH) {
            blots(side, Boards.at(3, 3, 3, 5, 5, 5), FAR, 3, 1, 1);
            blots(side, Boards.at(3, 3, 5, 5, 5, 5), FAR, 3, 1, 2);
            blots(side, Boards.at(3, 5, 5, 5, 5, 5), FAR, 3, 1, 1);
            blots(side, Boards.at(3, 4, 5, 5, 5, 5), FAR, 3, 1, 0);
            blots(side, Boards.at(3, 4, 4, 5, 5, 5), FAR, 3, 1, 0);
            blots(side, Boards.at(3, 3, 3, 3, 3, 3), Boards.at(4, 7, 8, 9, 10, 11), 3, 1, 1);
            blots(side, Boards.at(15, 15, 15, 15, 14, 14), Boards.at(0, 1, 2, 3, 4, 5), 14, 2, 1);
            blots(side, Boards.at(15, 15, 15, 15, 15, 14), Boards.at(0, 1, 2, 3, 4, 5), 14, 2, 0);
        }
    }

    private void blotsFrom() {
        for (Side side : Side.BOTH) {
            blots(side, Boards.at(0, 5, 5, 5, 5, 5), FAR, 0, 1, 1);
            blots(side, Boards.at(15, 15, 14, 14, 14, 14), Boards.at(0, 1, 2, 3, 4, 5), 15, 1, 1);
            blots(side, Boards.at(BAR, 5, 5, 5, 5, 5), FAR, BAR, 1, 1);
            blots(side, Boards.at(BAR, BAR, 5, 5, 5, 5), FAR, BAR, 1, 1);
            blots(side, Boards.at(BAR, 0, 5, 5, 5, 5), FAR, BAR, 1, 0);
        }
    }

    private void blotsByEachDie() {
        for (Side side : Side.BOTH) {
            for (int die = 1; die <= 6; die++) {
                blots(side, Boards.at(0, 0, 0, 1, 3, 6), FAR, 0, die, die == 1 || die == 3 || die == 6 ? 2 : 4);
            }
        }
        for (int die : NO_DICE) {
            check.refused("blotsBehind(0, " + die + ")", Moment.BEHIND_A_ROLL::made, Check.ARGUMENT, x -> x.blotsBehind(0, die));
        }
    }

    private void zeroToSixBlots() {
        for (Side side : Side.BOTH) {
            blots(side, Boards.at(0, 1, 7, 7, 7, 7), FAR, 0, 1, 0);
            blots(side, Boards.at(0, 2, 2, 7, 7, 7), FAR, 0, 1, 1);
            blots(side, Boards.at(0, 2, 4, 7, 7, 7), FAR, 0, 1, 3);
            blots(side, Boards.at(0, 2, 4, 6, 8, 10), FAR, 0, 1, 6);
            blots(side, Boards.at(0, 0, 4, 6, 8, 10), FAR, 0, 1, 6);
            blots(side, Boards.at(BAR, 2, 4, 6, 8, 10), FAR, BAR, 1, 6);
            blots(side, Boards.at(OFF, OFF, OFF, OFF, OFF, 15), Boards.at(0, 1, 2, 3, 4, 5), 15, 1, 0);
        }
    }

    private void blotsFromNoPoint() {
        for (Moment moment : Moment.values()) {
            for (int from : new int[] {-2, 16, 17, Integer.MIN_VALUE, Integer.MAX_VALUE}) {
                check.refused("blotsBehind(" + from + ", 1) " + moment, moment::made, Check.BOUNDS, x -> x.blotsBehind(from, 1));
                check.refused("blotsBehind(" + from + ", 0) " + moment, moment::made, Check.BOUNDS, x -> x.blotsBehind(from, 0));
            }
            for (int from : new int[] {-1, 15}) {
                check.refused("blotsBehind(" + from + ", 1) " + moment, moment::made, Check.STATE, x -> x.blotsBehind(from, 1));
            }
        }
        check.answers("blotsBehind(0, 1)", Moment.BEHIND_A_ROLL.made(), x -> x.blotsBehind(0, 1));
    }

    private void blotsByNoDie() {
        for (Moment moment : Moment.values()) {
            for (int die : NO_DICE) {
                check.refused("blotsBehind(0, " + die + ") " + moment, moment::made, Check.ARGUMENT, x -> x.blotsBehind(0, die));
                check.refused("blotsBehind(-1, " + die + ") " + moment, moment::made, Check.ARGUMENT, x -> x.blotsBehind(-1, die));
            }
            check.refused("blotsBehind(1, 1) " + moment, moment::made, Check.STATE, x -> x.blotsBehind(1, 1));
            check.refused("blotsBehind(1, 6) " + moment, moment::made, Check.STATE, x -> x.blotsBehind(1, 6));
        }
    }

    private void blotsBehindNoStep() {
        check.refusedIn(Moment.allBut(Moment.BEHIND_A_ROLL), "blotsBehind(0, 1)", x -> x.blotsBehind(0, 1));
        int[] mine = {0, 13, 15, 15, 15, 15};
        int[] bar = {BAR, 13, 15, 15, 15, 15};
        for (Side side : Side.BOTH) {
            noBlots(side, mine, 13, 3);
            noBlots(side, mine, 12, 1);
            noBlots(side, bar, 13, 1);
            noBlots(side, mine, 0, 1);
            noBlots(side, mine, 15, 1);
            noBlots(side, mine, 13, 2);
            check.is(side + "a step that is possible", side.rolled(mine, Boards.at(1, 1, 3, 3, 5, 5), 2, 1)
                    .blotsBehind(side.at(13), 1), 2);
        }
    }

    private void noBlots(Side side, int[] mine, int from, int die) {
        check.refused(side + "blotsBehind a step from " + from + " by " + die,
                () -> side.rolled(mine, Boards.at(1, 1, 3, 3, 5, 5), 2, 1), Check.STATE, x -> x.blotsBehind(side.at(from), die));
    }
}
