import java.util.LinkedHashMap;
import java.util.Map;
import java.util.function.BiFunction;

/** The sentences on the run, on a new object and on the looks at the run: promises 1, 20 to 33. */
final class RunBounds {
    private static final int BAR = Boards.BAR;
    private static final int OFF = Boards.OFF;
    /** No number of a player. */
    private static final int[] NO_PLAYERS = {-1, 2, Integer.MIN_VALUE, Integer.MAX_VALUE};
    private static final int[] NO_POINTS = {-1, 16, Integer.MIN_VALUE, Integer.MAX_VALUE};

    private final Sentences doc;
    private final Check check;

    RunBounds(Sentences sentences) {
        doc = sentences;
        check = sentences.check;
    }

    void all() {
        doc.says("What it is", "An object is used for at most 512 calls", this::lastCalls);
        theRun();
        doc.says("Promise 1", "Creates a game at its beginning", this::newGameBegins);
        doc.says("Promise 1", "scores of 0, no snapshot, an empty buffer", this::newObjectIsEmpty);
        moverToDice();
        looksOfPlayers();
    }

    private void theRun() {
        doc.says("The run", "There are the players 0 and 1", this::players);
        doc.says("The run", "with 6 pieces each", this::sixPieces);
        doc.says("The run", "and the points 0 to 15", this::points);
        doc.says("The run", "and off the run behind the point 15", () -> ends(0));
        doc.says("The run", "and off the run behind the point 0", () -> ends(1));
        doc.says("The run", "The home of the player 0 are the points 12 to 15", () -> home(0));
        doc.says("The run", "that of the player 1 the points 0 to 3", () -> home(1));
        doc.says("The run", "A piece is on a point, on the bar, or off.", this::places);
        doc.says("The run", "No point has pieces of both players.", this::noPointOfBoth);
        doc.says("The run", "At the beginning the player 0 has 2 pieces each", this::newGameBegins);
        doc.says("The run", "of the player 0 on the point p 16 less p", () -> ways(0));
        doc.says("The run", "of the player 1 p and 1", () -> ways(1));
        doc.says("The run", "of a piece on the bar 17", this::wayFromBar);
        doc.says("The run", "The pips of a player are the ways of all pieces that are not off.", this::offHasNoPips);
        doc.says("The run", "A blot is a point with a single piece.", this::singlePiece);
        doc.says("The run", "A block is a point with 2 or more pieces of a player", this::blockOfTwo);
        doc.says("The run", "a blockade of a player are blocks side by side", this::sideBySide);
    }

    private void lastCalls() {
        MagpieRuns x = new MagpieRuns();
        for (int call = 1; call <= 507; call++) {
            x.carry(0, call % 2 == 1 ? 0 : 1, call % 2 == 1 ? 1 : 0);
        }
        check.is("the call 508", x.carry(0, 1, 0), 74);
        check.is("the call 509", x.roll(6, 6), 4);
        check.is("the call 510", Check.outcome(() -> x.roll(6, 6)), "throws.IllegalStateException");
        check.is("the call 511", x.undo(), 4);
        check.is("the call 512", x.piecesOn(0, 0), 2);
    }

    /** All calls that ask for a player; each may ask for the player 0 and for the player 1. */
    private static Map<String, BiFunction<MagpieRuns, Integer, Object>> callsOfPlayers() {
        Map<String, BiFunction<MagpieRuns, Integer, Object>> calls = new LinkedHashMap<>();
        calls.put("piecesOn", (x, player) -> x.piecesOn(player, 0));
        calls.put("onBar", MagpieRuns::onBar);
        calls.put("borneOff", MagpieRuns::borneOff);
        calls.put("pips", MagpieRuns::pips);
        calls.put("blots", MagpieRuns::blots);
        calls.put("blockade", MagpieRuns::blockade);
        calls.put("score", MagpieRuns::score);
        calls.put("hits", MagpieRuns::hits);
        calls.put("entering", MagpieRuns::entering);
        calls.put("carry", (x, player) -> x.carry(player, player == 0 ? 4 : 11, BAR));
        return calls;
    }

    private void players() {
        callsOfPlayers().forEach((name, call) -> {
            Moment ahead = Moment.AHEAD_OF_A_ROLL;
            check.answers(name + "(0)", ahead.made(), x -> call.apply(x, 0));
            check.answers(name + "(1)", ahead.made(), x -> call.apply(x, 1));
            for (int player : NO_PLAYERS) {
                check.refused(name + "(" + player + ")", ahead::made, Check.BOUNDS, x -> call.apply(x, player));
            }
        });
    }

    private static int piecesOf(MagpieRuns x, int player) {
        int count = x.onBar(player) + x.borneOff(player);
        for (int point = 0; point < 16; point++) {
            count += x.piecesOn(player, point);
        }
        return count;
    }

    private void sixPieces() {
        MagpieRuns x = new MagpieRuns();
        check.is("pieces of the player 0", piecesOf(x, 0), 6);
        check.is("pieces of the player 1", piecesOf(x, 1), 6);
        for (Side side : Side.BOTH) {
            MagpieRuns y = side.board(Boards.at(5, 5, 5, 5, 5, 5), Boards.at(9, 9, 9, 9, 9, BAR));
            check.is(side + "all six on a point", side.mineOn(y, 5), 6);
            check.is(side + "five on a point", side.theirsOn(y, 9), 5);
            check.raises(side + "carry of a seventh", y, Check.STATE, () -> y.carry(side.me, BAR, side.at(5)));
            check.is(side + "carry of a sixth", y.carry(side.other, BAR, side.at(9)), 6 * 10);
            check.is(side + "six on the other's point", side.theirsOn(y, 9), 6);
        }
    }

    private void points() {
        Map<String, BiFunction<MagpieRuns, Integer, Object>> calls = new LinkedHashMap<>();
        calls.put("piecesOn(0, point)", (x, point) -> x.piecesOn(0, point));
        calls.put("piecesOn(1, point)", (x, point) -> x.piecesOn(1, point));
        calls.put("shots(point)", MagpieRuns::shots);
        calls.put("shotsByKinds(point)", MagpieRuns::shotsByKinds);
        calls.forEach((name, call) -> {
            Moment ahead = Moment.AHEAD_OF_A_ROLL;
            check.answers(name + " of 0", ahead.made(), x -> call.apply(x, 0));
            check.answers(name + " of 15", ahead.made(), x -> call.apply(x, 15));
            for (int point : NO_POINTS) {
                check.refused(name + " of " + point, ahead::made, Check.BOUNDS, x -> call.apply(x, point));
            }
        });
    }

    private void ends(int player) {
        Side side = Side.BOTH[player];
        MagpieRuns x = side.rolled(Boards.at(12, 14, 15, 15, 15, 15), Boards.at(8, 8, 8, 8, 8, 8), 1, 1);
        side.step(x, 14, 1);
        check.is(side + "the last point is on the run", side.mineOn(x, 15), 5);
        check.is(side + "nothing is off", x.borneOff(player), 0);
        side.step(x, 15, 1);
        check.is(side + "behind the last point is off", x.borneOff(player), 1);
        check.is(side + "the last point", side.mineOn(x, 15), 4);
        side.step(x, 12, 1);
        check.is(side + "the way of the steps", side.mineOn(x, 13) * 10 + side.mineOn(x, 11), 10);
    }

    private void home(int player) {
        Side side = Side.BOTH[player];
        for (int point = 6; point <= 15; point++) {
            int last = point < 15 ? 15 : 14;
            MagpieRuns x = side.rolled(Boards.at(point, last, last, last, last, last),
                    Boards.at(1, 1, 3, 3, 5, 5), 16 - last, 16 - last);
            check.is(side + "off with a piece on " + side.at(point), side.why(x, last, 16 - last),
                    point < 12 ? 5 : 0);
        }
    }

    private void places() {
        MagpieRuns x = new MagpieRuns();
        int[][] ways = {{0, BAR}, {BAR, OFF}, {OFF, 15}, {15, 0}, {0, OFF}, {OFF, BAR}, {BAR, 1}, {1, 1}};
        x.carry(1, 15, 14);
        x.carry(1, 15, 14);
        for (int[] way : ways) {
            int from = way[0];
            int to = way[1];
            int leaving = on(x, from);
            int arriving = on(x, to);
            x.carry(0, from, to);
            check.is("pieces behind " + from + " to " + to, piecesOf(x, 0), 6);
            if (from != to) {
                check.is("left " + from, on(x, from), leaving - 1);
                check.is("on " + to, on(x, to), arriving + 1);
            }
        }
        MagpieRuns y = Boards.with(Boards.at(7, 7, 7, 7, 7, 7), Boards.at(8, 9, 9, 15, 15, 15));
        y.roll(1, 1);
        y.step(7, 1);
        check.is("pieces of one that is hit", piecesOf(y, 1), 6);
        check.is("pieces of the one that hits", piecesOf(y, 0), 6);
    }

    private static int on(MagpieRuns x, int place) {
        return place == BAR ? x.onBar(0) : place == OFF ? x.borneOff(0) : x.piecesOn(0, place);
    }

    private void noPointOfBoth() {
        for (Side side : Side.BOTH) {
            for (int theirs = 0; theirs <= 3; theirs++) {
                int[] places = {BAR, BAR, BAR, 15, 15, 15};
                java.util.Arrays.fill(places, 0, theirs, 5);
                MagpieRuns x = side.board(Boards.at(4, 4, 4, 4, 4, 4), places);
                Object carried = Check.outcome(() -> x.carry(side.me, side.at(4), side.at(5)));
                check.is(side + "carry onto " + theirs + " of the other", carried,
                        theirs == 0 ? (Object) (5 * 12 + 11) : "throws.IllegalStateException");
                MagpieRuns y = side.rolled(Boards.at(4, 4, 4, 4, 4, 4), places, 1, 1);
                Check.outcome(() -> side.step(y, 4, 1));
                check.is(side + "mine behind a step onto " + theirs, side.mineOn(y, 5), theirs < 2 ? 1 : 0);
                check.is(side + "theirs behind a step onto " + theirs, side.theirsOn(y, 5), theirs < 2 ? 0 : theirs);
            }
        }
    }

    private void newGameBegins() {
        MagpieRuns x = new MagpieRuns();
        begins(x, 0);
        x.offer();
        x.drop();
        x.newGame();
        begins(x, 1);
    }

    private void begins(MagpieRuns x, int mover) {
        int[] due = {2, 0, 0, 0, 2, 0, 0, 2, 0, 0, 0, 0, 0, 0, 0, 0};
        for (int point = 0; point < 16; point++) {
            check.is("at the beginning piecesOn(0, " + point + ")", x.piecesOn(0, point), due[point]);
            check.is("at the beginning piecesOn(1, " + point + ")", x.piecesOn(1, point), due[15 - point]);
        }
        for (int player = 0; player < 2; player++) {
            check.is("at the beginning onBar(" + player + ")", x.onBar(player), 0);
            check.is("at the beginning borneOff(" + player + ")", x.borneOff(player), 0);
        }
        check.is("the mover at the beginning", x.mover(), mover);
        check.is("the phase at the beginning", x.phase(), 0);
        check.is("dice at the beginning", x.diceLeft(), 0);
        check.is("the stake at the beginning", x.stake(), 1);
        check.is("the cube at the beginning", x.cubeOf(), -1);
    }

    private void newObjectIsEmpty() {
        MagpieRuns x = new MagpieRuns();
        check.is("score(0)", x.score(0), 0);
        check.is("score(1)", x.score(1), 0);
        check.is("hits(0)", x.hits(0), 0);
        check.is("hits(1)", x.hits(1), 0);
        check.is("savedStates", x.savedStates(), 0);
        check.is("hasStopped", x.hasStopped(), false);
        check.is("firstError", x.firstError(), 0);
        check.is("the length of the buffer", x.clearBuffer(), 0);
        check.refused("restore on a new object", MagpieRuns::new, Check.STATE, MagpieRuns::restore);
        check.refused("undo on a new object", MagpieRuns::new, Check.STATE, MagpieRuns::undo);
    }

    private MagpieRuns alone(int player, int place) {
        int[] one = Boards.at(OFF, OFF, OFF, OFF, OFF, place);
        int[] others = Boards.at(OFF, OFF, OFF, OFF, OFF, BAR);
        return player == 0 ? Boards.with(one, others) : Boards.with(others, one);
    }

    private void ways(int player) {
        for (int point = 0; point < 16; point++) {
            check.is("pips of a piece on " + point, alone(player, point).pips(player),
                    player == 0 ? 16 - point : point + 1);
        }
    }

    private void wayFromBar() {
        for (int player = 0; player < 2; player++) {
            MagpieRuns x = alone(player, BAR);
            check.is("pips of a piece on the bar", x.pips(player), 17);
            check.is("pips of the farthest point", x.carry(player, BAR, player == 0 ? 0 : 15), 16);
        }
    }

    private void offHasNoPips() {
        MagpieRuns x = new MagpieRuns();
        check.is("pips with one off", x.carry(0, 7, OFF), 74 - 9);
        check.is("pips(0)", x.pips(0), 65);
        check.is("pips(1)", x.pips(1), 74);
        check.is("pips with two off", x.carry(0, 7, OFF), 74 - 18);
        MagpieRuns won = Moment.WON.made();
        check.is("pips with all off", won.pips(0), 0);
        MagpieRuns bar = Boards.with(Boards.at(BAR, BAR, BAR, BAR, BAR, BAR), Boards.at(0, 0, 0, 0, 0, 0));
        check.is("the most pips", bar.pips(0), 102);
        check.is("six on the last point", bar.pips(1), 6);
    }

    /** A board with so many pieces of the side's player on a point, the others on the bar. */
    private static MagpieRuns pile(Side side, int point, int count) {
        int[] places = {BAR, BAR, BAR, BAR, BAR, BAR};
        java.util.Arrays.fill(places, 0, count, point);
        return side.board(places, Boards.at(OFF, OFF, OFF, OFF, OFF, BAR));
    }

    private void singlePiece() {
        for (Side side : Side.BOTH) {
            for (int count = 0; count <= 6; count++) {
                for (int point : new int[] {0, 5, 15}) {
                    check.is(side + "" + count + " on " + point, pile(side, point, count).blots(side.me),
                            count == 1 ? 1 : 0);
                }
            }
            MagpieRuns x = side.board(Boards.at(OFF, BAR, 0, 15, 3, 3), Boards.at(OFF, OFF, OFF, OFF, OFF, BAR));
            check.is(side + "one off and one on the bar are no blots", x.blots(side.me), 2);
            check.is(side + "one on the bar", x.blots(side.other), 0);
        }
    }

    private void blockOfTwo() {
        for (Side side : Side.BOTH) {
            for (int count = 0; count <= 6; count++) {
                for (int point : new int[] {0, 5, 15}) {
                    check.is(side + "" + count + " on " + point, pile(side, point, count).blockade(side.me),
                            count >= 2 ? 1 : 0);
                }
            }
            MagpieRuns x = side.board(Boards.at(OFF, OFF, BAR, BAR, 1, 2), Boards.at(OFF, OFF, BAR, BAR, 9, BAR));
            check.is(side + "two off and two on the bar are no blocks", x.blockade(side.me), 0);
        }
    }

    private int blockadeOf(Side side, int... places) {
        return side.board(places, Boards.at(OFF, OFF, OFF, OFF, OFF, BAR)).blockade(side.me);
    }

    private void sideBySide() {
        for (Side side : Side.BOTH) {
            for (int point = 0; point < 15; point++) {
                int last = point == 0 ? 15 : 0;
                int one = blockadeOf(side, point, point, point + 1, point + 1, last, BAR);
                check.is(side + "blocks on " + point + " and the next", one, 2);
            }
            for (int point = 0; point < 14; point++) {
                check.is(side + "a point is free behind " + point,
                        blockadeOf(side, point, point, point + 2, point + 2, BAR, OFF), 1);
                check.is(side + "a blot is behind " + point,
                        blockadeOf(side, point, point, point + 1, point + 2, point + 2, OFF), 1);
                check.is(side + "three blocks from " + point,
                        blockadeOf(side, point, point, point + 1, point + 1, point + 2, point + 2), 3);
            }
            check.is(side + "the ends are not side by side", blockadeOf(side, 0, 0, 15, 15, OFF, OFF), 1);
            check.is(side + "the bar is not beside the run", blockadeOf(side, 0, 0, BAR, BAR, 15, 15), 1);
            check.is(side + "off is not beside the run", blockadeOf(side, OFF, OFF, 15, 15, 3, 4), 1);
            check.is(side + "the longest is the first", blockadeOf(side, 1, 1, 2, 2, 9, 9), 2);
            check.is(side + "the longest is the last", blockadeOf(side, 1, 1, 9, 9, 10, 10), 2);
        }
    }

    private void moverToDice() {
        doc.says("Promise 20", "Returns the mover.", this::mover);
        doc.says("Promise 21", "0 a roll", () -> phase(0, Moment.AHEAD_OF_A_ROLL));
        doc.says("Promise 21", "1 steps (there was a roll)", () -> phase(1, Moment.BEHIND_A_ROLL,
                Moment.ALL_DICE_USED, Moment.NO_STEP_POSSIBLE));
        doc.says("Promise 21", "2 taking or dropping a double", () -> phase(2, Moment.DOUBLE_OFFERED));
        doc.says("Promise 21", "3 a new game (it is over)", () -> phase(3, Moment.DROPPED, Moment.WON));
        doc.says("Promise 22", "Returns the number of dice that are left.", this::diceLeft);
        doc.says("Promise 23", "Returns a die that is left.", this::diceInTurn);
        doc.says("Promise 23", "`number`: from 0, in the order in which they were rolled", this::diceInOrder);
        doc.says("Promise 23", "Returns the die.", this::eachDie);
        doc.says("Promise 23", "if there is no such die", this::noSuchDie);
    }

    private void mover() {
        MagpieRuns x = new MagpieRuns();
        check.is("mover of the first turn", x.mover(), 0);
        x.offer();
        check.is("mover while a double is offered", x.mover(), 0);
        x.take();
        check.is("mover behind taking", x.mover(), 0);
        for (int turn = 1; turn <= 3; turn++) {
            x.roll(4, 4);
            while (x.possibleSteps() > 0) {
                x.step(x.mover() == 0 ? x.piecesOn(0, 0) > 0 ? 0 : 4 : x.piecesOn(1, 15) > 0 ? 15 : 11, 4);
            }
            check.is("mover at the end of a turn", x.mover(), (turn - 1) % 2);
            x.endTurn();
            check.is("mover behind " + turn + " turns", x.mover(), turn % 2);
        }
        check.is("mover with the game over", Moment.WON.made().mover(), 0);
        check.is("mover behind a drop", Moment.DROPPED.made().mover(), 0);
    }

    private void phase(int due, Moment... moments) {
        for (Moment moment : moments) {
            check.is("phase " + moment, moment.made().phase(), due);
        }
    }

    private void diceLeft() {
        check.is("diceLeft ahead of a roll", Moment.AHEAD_OF_A_ROLL.made().diceLeft(), 0);
        MagpieRuns x = Moment.BEHIND_A_ROLL.made();
        check.is("diceLeft behind a roll", x.diceLeft(), 2);
        x.step(0, 1);
        check.is("diceLeft behind a step", x.diceLeft(), 1);
        x.step(0, 2);
        check.is("diceLeft behind two steps", x.diceLeft(), 0);
        MagpieRuns y = Boards.with(Boards.at(0, 0, 0, 0, 0, 0), Boards.at(15, 15, 14, 14, 13, 13));
        y.roll(1, 1);
        for (int left = 4; left > 0; left--) {
            check.is("diceLeft of four", y.diceLeft(), left);
            y.step(0, 1);
        }
        check.is("diceLeft of four, all used", y.diceLeft(), 0);
        MagpieRuns stuck = Moment.NO_STEP_POSSIBLE.made();
        check.is("diceLeft without a step", stuck.diceLeft(), 2);
        stuck.endTurn();
        check.is("diceLeft of the next turn", stuck.diceLeft(), 0);
        check.is("diceLeft while a double is offered", Moment.DOUBLE_OFFERED.made().diceLeft(), 0);
        check.is("diceLeft with the game won by a part of the dice", Moment.WON.made().diceLeft(), 0);
        check.is("diceLeft behind a drop", Moment.DROPPED.made().diceLeft(), 0);
    }

    private static String diceOf(MagpieRuns x) {
        StringBuilder text = new StringBuilder();
        for (int i = 0; i < x.diceLeft(); i++) {
            text.append(x.dieLeft(i));
        }
        return text.toString();
    }

    private void diceInTurn() {
        MagpieRuns x = new MagpieRuns();
        x.roll(3, 1);
        check.is("dice", diceOf(x), "31");
        x.step(0, 3);
        check.is("dice behind the first", diceOf(x), "1");
        x.undo();
        x.step(0, 1);
        check.is("dice behind the second", diceOf(x), "3");
        x.step(0, 3);
        check.is("no dice", diceOf(x), "");
        MagpieRuns y = Boards.with(Boards.at(0, 0, 0, 0, 0, 0), Boards.at(15, 15, 14, 14, 13, 13));
        y.roll(2, 2);
        for (int left = 4; left > 0; left--) {
            check.is("dice of a double", diceOf(y), "2222".substring(0, left));
            y.step(0, 2);
        }
    }

    private void diceInOrder() {
        for (int first = 1; first <= 6; first++) {
            for (int second = 1; second <= 6; second++) {
                MagpieRuns x = new MagpieRuns();
                x.roll(first, second);
                String two = "" + first + second;
                check.is("dice of " + two, diceOf(x), first == second ? two + two : two);
            }
        }
    }

    private void eachDie() {
        MagpieRuns x = new MagpieRuns();
        x.roll(6, 1);
        check.is("dieLeft(0)", x.dieLeft(0), 6);
        check.is("dieLeft(1)", x.dieLeft(1), 1);
        x.undo();
        x.roll(1, 6);
        check.is("dieLeft(0) the other way round", x.dieLeft(0), 1);
        check.is("dieLeft(1) the other way round", x.dieLeft(1), 6);
    }

    private void noSuchDie() {
        for (int used = 0; used <= 4; used++) {
            int steps = used;
            MagpieRuns x = dicePartlyUsed(2, steps);
            for (int number = 0; number < 4 - used; number++) {
                check.is("dieLeft(" + number + ") behind " + used, x.dieLeft(number), 2);
            }
            for (int number : new int[] {-1, 4 - used, 5 - used, 4, 10, 11, Integer.MIN_VALUE, Integer.MAX_VALUE}) {
                check.refused("dieLeft(" + number + ") behind " + used, () -> dicePartlyUsed(2, steps),
                        Check.BOUNDS, y -> y.dieLeft(number));
            }
        }
        for (Moment moment : Moment.values()) {
            int none = moment.made().diceLeft();
            check.refused("dieLeft(" + none + ") " + moment, moment::made, Check.BOUNDS, x -> x.dieLeft(none));
            check.refused("dieLeft(-1) " + moment, moment::made, Check.BOUNDS, x -> x.dieLeft(-1));
        }
    }

    private static MagpieRuns dicePartlyUsed(int die, int steps) {
        MagpieRuns x = Boards.with(Boards.at(0, 0, 0, 0, 0, 0), Boards.at(15, 15, 14, 14, 13, 13));
        x.roll(die, die);
        for (int i = 0; i < steps; i++) {
            x.step(0, die);
        }
        return x;
    }

    private void looksOfPlayers() {
        doc.says("Promise 24", "Returns the number of pieces of a player on a point.", this::piecesOn);
        look("Promise 24", (x, player) -> x.piecesOn(player, player == 0 ? 11 : 13), 3, 2);
        doc.says("Promise 24", "`point`: 0 to 15", this::firstAndLastPoint);
        doc.says("Promise 24", "Returns how many.", this::pilesOnPoint);
        doc.says("Promise 24", "if there is no such player or point", this::piecesOnNothing);
        doc.says("Promise 25", "Returns the number of pieces of a player on the bar.", this::onBar);
        look("Promise 25", MagpieRuns::onBar, 1, 0);
        many("Promise 25", this::onBar);
        doc.says("Promise 26", "Returns the number of pieces of a player that are off.", this::borneOff);
        look("Promise 26", MagpieRuns::borneOff, 1, 0);
        many("Promise 26", this::borneOff);
        doc.says("Promise 27", "Returns the pips of a player.", this::offHasNoPips);
        look("Promise 27", MagpieRuns::pips, 17 + 16 + 5 + 5 + 5, 2 * (16 + 15 + 14));
        doc.says("Promise 27", "Returns the pips.", this::allPips);
        doc.says("Promise 28", "Returns the number of blots of a player.", this::singlePiece);
        look("Promise 28", MagpieRuns::blots, 1, 0);
        many("Promise 28", this::zeroToSixBlots);
        doc.says("Promise 29", "Returns the length of the longest blockade of a player.", this::sideBySide);
        look("Promise 29", MagpieRuns::blockade, 1, 3);
        doc.says("Promise 29", "Returns how many points, 0 without a block.", this::blockOfTwo);
        doc.says("Promise 30", "Returns the stake.", this::stake);
        doc.says("Promise 31", "Returns the player who has the cube", this::cube);
        doc.says("Promise 31", "-1 if nobody has it", this::cubeAtNobody);
        doc.says("Promise 32", "Returns the score of a player.", this::score);
        look("Promise 32", MagpieRuns::score, 1, 0);
        doc.says("Promise 32", "Returns the score.", this::scoresAdd);
        doc.says("Promise 33", "Returns how often pieces of a player were hit so far, in all games.", this::hits);
        look("Promise 33", MagpieRuns::hits, 0, 0);
        doc.says("Promise 33", "Returns how often.", this::hitsOfBoth);
    }

    private void many(String promise, Runnable test) {
        doc.says(promise, "Returns how many.", test);
    }

    private static MagpieRuns unlike() {
        return Side.BOTH[1].board(Boards.at(0, 0, 1, 1, 2, 2), Boards.at(15, BAR, 4, 4, 4, OFF));
    }

    /** A look answers 0 and 1 for their own pieces, and refuses all other numbers. */
    private void look(String promise, BiFunction<MagpieRuns, Integer, Object> call, int of0, int of1) {
        doc.says(promise, "`player`: 0 or 1", () -> {
            check.is(promise + " of the player 0", call.apply(unlike(), 0), of0);
            check.is(promise + " of the player 1", call.apply(unlike(), 1), of1);
        });
        if (!promise.equals("Promise 24")) {
            doc.says(promise, "if there is no such player", () -> {
                for (Moment moment : Moment.values()) {
                    noPlayer(promise, moment, call);
                }
            });
        }
    }

    private void noPlayer(String promise, Moment moment, BiFunction<MagpieRuns, Integer, Object> call) {
        for (int player : NO_PLAYERS) {
            check.refused(promise + " of " + player, moment::made, Check.BOUNDS, x -> call.apply(x, player));
        }
        check.answers(promise + " of 0", moment.made(), x -> call.apply(x, 0));
        check.answers(promise + " of 1", moment.made(), x -> call.apply(x, 1));
    }

    private void piecesOn() {
        for (int point = 0; point < 16; point++) {
            MagpieRuns x = Boards.with(Boards.at(point, point, point, BAR, BAR, OFF),
                    Boards.at(BAR, BAR, BAR, BAR, OFF, (point + 1) % 16));
            for (int other = 0; other < 16; other++) {
                check.is("piecesOn(0, " + other + ")", x.piecesOn(0, other), other == point ? 3 : 0);
                check.is("piecesOn(1, " + other + ")", x.piecesOn(1, other), other == (point + 1) % 16 ? 1 : 0);
            }
        }
    }

    private void firstAndLastPoint() {
        MagpieRuns x = Boards.with(Boards.at(0, 0, 0, 15, 15, BAR), Boards.at(1, 1, 14, 14, 14, 14));
        check.is("piecesOn(0, 0)", x.piecesOn(0, 0), 3);
        check.is("piecesOn(0, 15)", x.piecesOn(0, 15), 2);
        check.is("piecesOn(1, 1)", x.piecesOn(1, 1), 2);
        check.is("piecesOn(1, 14)", x.piecesOn(1, 14), 4);
    }

    private void pilesOnPoint() {
        for (Side side : Side.BOTH) {
            for (int count = 0; count <= 6; count++) {
                check.is(side + "a pile of " + count, side.mineOn(pile(side, 5, count), 5), count);
            }
        }
    }

    private void piecesOnNothing() {
        for (Moment moment : Moment.values()) {
            noPlayer("Promise 24", moment, (x, player) -> x.piecesOn(player, 0));
            for (int point : NO_POINTS) {
                check.refused("piecesOn(0, " + point + ")", moment::made, Check.BOUNDS, x -> x.piecesOn(0, point));
                check.refused("piecesOn(1, " + point + ")", moment::made, Check.BOUNDS, x -> x.piecesOn(1, point));
                check.refused("piecesOn(2, " + point + ")", moment::made, Check.BOUNDS, x -> x.piecesOn(2, point));
            }
        }
    }

    private void onBar() {
        for (Side side : Side.BOTH) {
            for (int count = 0; count <= 6; count++) {
                MagpieRuns x = pile(side, 5, 6 - count);
                check.is(side + "" + count + " on the bar", x.onBar(side.me), count);
                check.is(side + "the other's bar", x.onBar(side.other), 1);
            }
        }
    }

    private void borneOff() {
        for (Side side : Side.BOTH) {
            for (int count = 0; count <= 5; count++) {
                int[] places = {15, 15, 15, 15, 15, 15};
                java.util.Arrays.fill(places, 0, count, OFF);
                MagpieRuns x = side.board(places, Boards.at(0, 0, 0, 0, OFF, OFF));
                check.is(side + "" + count + " off", x.borneOff(side.me), count);
                check.is(side + "two of the other off", x.borneOff(side.other), 2);
                if (count == 5) {
                    x.roll(1, 1);
                    side.step(x, 15, 1);
                    check.is(side + "all six off", x.borneOff(side.me), 6);
                }
            }
        }
    }

    private void allPips() {
        ways(0);
        ways(1);
        wayFromBar();
        check.is("pips(0) at the beginning", new MagpieRuns().pips(0), 2 * (16 + 12 + 9));
        check.is("pips(1) at the beginning", new MagpieRuns().pips(1), 2 * (16 + 12 + 9));
    }

    private void zeroToSixBlots() {
        for (Side side : Side.BOTH) {
            for (int count = 0; count <= 6; count++) {
                int[] places = {BAR, BAR, BAR, BAR, BAR, BAR};
                for (int i = 0; i < count; i++) {
                    places[i] = 3 * i;
                }
                MagpieRuns x = side.board(places, Boards.at(1, 1, 2, 2, 4, 5));
                check.is(side + "blots", x.blots(side.me), count);
                check.is(side + "blots of the other", x.blots(side.other), 2);
            }
        }
    }

    private void stake() {
        MagpieRuns x = new MagpieRuns();
        check.is("stake at first", x.stake(), 1);
        for (int stake = 2; stake <= 64; stake *= 2) {
            x.offer();
            check.is("stake while offered", x.stake(), stake / 2);
            x.take();
            check.is("stake behind taking", x.stake(), stake);
            Boards.passTurn(x);
            check.is("stake in the next turn", x.stake(), stake);
        }
        check.is("stake behind a drop", Moment.DROPPED.made().stake(), 1);
    }

    private void cube() {
        MagpieRuns x = new MagpieRuns();
        for (int turn = 0; turn < 4; turn++) {
            int holder = turn == 0 ? -1 : turn % 2;
            x.offer();
            check.is("cube while offered", x.cubeOf(), holder);
            x.take();
            check.is("cube at the one who took it", x.cubeOf(), 1 - turn % 2);
            Boards.passTurn(x);
        }
    }

    private void cubeAtNobody() {
        MagpieRuns x = new MagpieRuns();
        check.is("cube at first", x.cubeOf(), -1);
        x.offer();
        check.is("cube while the first double is offered", x.cubeOf(), -1);
        x.take();
        Boards.passTurn(x);
        x.offer();
        x.drop();
        check.is("cube with the game over", x.cubeOf(), 1);
        x.newGame();
        check.is("cube in a new game", x.cubeOf(), -1);
    }

    private void score() {
        MagpieRuns x = new MagpieRuns();
        check.is("score(0)", x.score(0), 0);
        x.offer();
        check.is("score(0) while offered", x.score(0), 0);
        x.drop();
        check.is("score(0)", x.score(0), 1);
        check.is("score(1)", x.score(1), 0);
        x.newGame();
        check.is("score(0) in a new game", x.score(0), 1);
        x.offer();
        x.drop();
        check.is("score(0)", x.score(0), 1);
        check.is("score(1)", x.score(1), 1);
    }

    private void scoresAdd() {
        MagpieRuns x = new MagpieRuns();
        int[] due = {1, 1, 2, 2, 3, 3, 4, 4};
        for (int game = 0; game < due.length; game++) {
            x.offer();
            x.drop();
            check.is("score behind game " + game, x.score(game % 2), due[game]);
            x.newGame();
        }
    }

    private void hits() {
        MagpieRuns x = Boards.with(Boards.at(7, 7, 7, 7, 7, 7), Boards.at(8, 9, 15, 15, 15, 15));
        check.is("hits ahead of a hit", x.hits(1), 0);
        x.roll(1, 1);
        x.step(7, 1);
        check.is("hits behind one", x.hits(1), 1);
        x.step(8, 1);
        check.is("hits behind two", x.hits(1), 2);
        x.step(7, 1);
        check.is("hits behind a step that does not hit", x.hits(1), 2);
        check.is("hits of the one that hits", x.hits(0), 0);
        check.is("undo", x.undo(), 4);
        check.is("undo", x.undo(), 3);
        check.is("hits behind undo", x.hits(1), 1);
        x.step(8, 1);
        x.step(9, 1);
        x.step(10, 1);
        x.endTurn();
        x.offer();
        x.drop();
        x.newGame();
        check.is("hits in the next game", x.hits(1), 2);
        x.carry(1, 8, 9);
        x.roll(2, 1);
        x.step(7, 2);
        check.is("hits in all games", x.hits(1), 3);
    }

    private void hitsOfBoth() {
        for (Side side : Side.BOTH) {
            MagpieRuns x = side.rolled(Boards.at(3, 15, 15, 15, 15, 15), Boards.at(4, 10, 12, 13, 14, 14), 1, 5);
            side.step(x, 3, 1);
            check.is(side + "hits of the other", x.hits(side.other), 1);
            side.step(x, 4, 5);
            x.endTurn();
            x.roll(1, 3);
            x.step(BAR, 3);
            check.is(side + "hits of the mover", x.hits(side.me), 0);
            x.step(side.at(10), 1);
            check.is(side + "hits of the mover", x.hits(side.me), 1);
            check.is(side + "hits of the other", x.hits(side.other), 1);
        }
    }
}
