import java.util.Arrays;

/** The sentences on steps, and the promises 34 to 36: boards as the mover sees them, for both. */
final class StepBounds {
    private static final int BAR = Boards.BAR;
    private static final int OFF = Boards.OFF;
    private static final int[] FAR = {15, 15, 15, 15, 15, 15};
    private static final int[] NO_POINTS = {-2, 16, 17, Integer.MIN_VALUE, Integer.MAX_VALUE};
    private static final int[] NO_DICE = {0, 7, -1, Integer.MIN_VALUE, Integer.MAX_VALUE};

    private final Sentences doc;
    private final Check check;

    StepBounds(Sentences sentences) {
        doc = sentences;
        check = sentences.check;
    }

    void all() {
        doc.says("Steps", "A step moves a piece of the mover by a die, that is left, so many points", this::moves);
        doc.says("Steps", "the player 0 comes onto the point with the number of the die less 1", () -> enters(0));
        doc.says("Steps", "the player 1 onto the point 16 less the die", () -> enters(1));
        reasons();
        doc.says("Steps", "If the step leads to a blot of the other player, that piece is hit", this::blotIsHit);
        doc.says("Steps", "it comes onto the bar", this::hitComesOntoBar);
        doc.says("Steps", "A roll brings two dice; if they are the same, four of this die.", this::diceOfRoll);
        doc.says("Steps", "The reach of some dice is the greatest number of steps", this::reach);
        doc.says("Steps", "The turn ends when the mover says so, which is possible only if no step is.", this::turnEnds);
        doc.says("Steps", "Then the other one is the mover, and no dice are left.", this::otherOneIsMover);
        promises();
    }

    private void reasons() {
        doc.says("Steps", "It is not allowed for the first of these reasons", this::firstReason);
        doc.says("Steps", "1: there is no such die left", this::noSuchDie);
        doc.says("Steps", "(also if it was not rolled", () -> neverADie(Moment.AHEAD_OF_A_ROLL));
        doc.says("Steps", "a double is offered", () -> neverADie(Moment.DOUBLE_OFFERED));
        doc.says("Steps", "or the game is over)", () -> neverADie(Moment.DROPPED, Moment.WON));
        doc.says("Steps", "2: the mover has no piece there", this::noPiece);
        doc.says("Steps", "3: the mover has a piece on the bar, and this one is another one", this::barFirst);
        doc.says("Steps", "4: the other player has a block on the point to which it leads", this::blocked);
        doc.says("Steps", "5: it leads off the run", this::leadsOff);
        doc.says("Steps", "and a piece of the mover is on the bar", this::offWithBar);
        doc.says("Steps", "or on a point that is not home", this::offWithOneNotHome);
        doc.says("Steps", "or the die is greater than the way of the piece", this::dieGreaterThanWay);
        doc.says("Steps", "and a piece of the mover has a longer way", this::longerWay);
        doc.says("Steps", "if behind it the reach is less than the reach ahead of it, less 1", this::reachIsLess);
        doc.says("Steps", "or if two unlike dice are left", this::twoUnlikeDice);
        doc.says("Steps", "the reach is 1", this::reachIsOne);
        doc.says("Steps", "it is made with the lesser die", this::lesserDie);
        doc.says("Steps", "and a step with the greater one is allowed", this::greaterIsAllowed);
    }

    private void promises() {
        doc.says("Promise 34", "Tells why a step is not possible.", this::stepAnswersAsReason);
        doc.says("Promise 34", "`from`: the point, 0 to 15; -1 for the bar", this::froms);
        doc.says("Promise 34", "`die`: 1 to 6", this::dice);
        doc.says("Promise 34", "Returns the reason, 1 to 6; 0 if it is possible.", this::allReasons);
        doc.says("Promise 34", "if there is no such point", this::noSuchPoint);
        doc.says("Promise 34", "if die is out of range", this::dieOutOfRange);
        doc.says("Promise 35", "Returns the number of steps that are possible", this::possibleSteps);
        doc.says("Promise 35", "of pairs of a place and a die", this::pairs);
        doc.says("Promise 36", "Returns the reach of the dice that are left.", this::reachOfDiceLeft);
    }

    private void why(Side side, MagpieRuns x, int from, int die, int due) {
        check.is(side + "whyNoStep from " + from + " by " + die, side.why(x, from, die), due);
    }

    private void moves() {
        for (Side side : Side.BOTH) {
            for (int die = 1; die <= 6; die++) {
                int other = die == 6 ? 1 : die + 1;
                MagpieRuns x = side.rolled(Boards.at(2, 2, 3, 15, 15, 15), Boards.at(0, 0, 1, 1, BAR, BAR), die, other);
                side.step(x, 2, die);
                check.is(side + "left", side.mineOn(x, 2), 1);
                check.is(side + "come by " + die, side.mineOn(x, 2 + die), die == 1 ? 2 : 1);
                check.is(side + "another one", side.mineOn(x, 15), 3);
                check.is(side + "the die is used", x.diceLeft(), 1);
                check.is(side + "the other die is left", x.dieLeft(0), other);
            }
        }
    }

    private void enters(int player) {
        for (int die = 1; die <= 6; die++) {
            MagpieRuns x = Side.BOTH[player].rolled(Boards.at(BAR, BAR, 15, 15, 15, 15), Boards.at(7, 7, 8, 8, 9, 9), die, die);
            int point = player == 0 ? die - 1 : 16 - die;
            check.is("from the bar by " + die, x.step(BAR, die), false);
            check.is("entered by " + die, x.piecesOn(player, point), 1);
            check.is("pips with one entered by " + die, x.pips(player), 17 + 17 - die + 4);
            check.is("left on the bar", x.onBar(player), 1);
        }
    }

    private void firstReason() {
        for (Side side : Side.BOTH) {
            MagpieRuns x = side.rolled(Boards.at(BAR, 4, 4, 7, 15, 15), Boards.at(2, 2, 8, 8, 6, 6), 3, 1);
            why(side, x, 5, 2, 1);
            why(side, x, 7, 2, 1);
            why(side, x, 5, 3, 2);
            why(side, x, 5, 1, 2);
            why(side, x, 7, 1, 3);
            why(side, x, 15, 3, 3);
            why(side, x, 15, 1, 3);
            why(side, x, BAR, 3, 4);
            why(side, x, BAR, 1, 0);
            MagpieRuns y = side.rolled(Boards.at(0, 11, 15, 15, 15, 15), Boards.at(4, 4, 5, 5, 6, 6), 4, 5);
            why(side, y, 11, 5, 5);
            why(side, y, 15, 5, 5);
            why(side, y, 14, 5, 2);
            why(side, y, 0, 5, 4);
            why(side, y, 11, 4, 0);
            MagpieRuns z = side.rolled(Boards.at(0, 13, 15, 15, 15, 15), Boards.at(1, 1, 3, 3, 5, 5), 2, 1);
            why(side, z, 13, 3, 1);
            why(side, z, 12, 2, 2);
            why(side, z, 13, 2, 6);
            why(side, z, 15, 2, 5);
        }
    }

    private void noSuchDie() {
        for (Side side : Side.BOTH) {
            MagpieRuns x = side.rolled(Side.START_MINE, Side.START_THEIRS, 3, 1);
            for (int die = 1; die <= 6; die++) {
                why(side, x, 0, die, die == 3 || die == 1 ? 0 : 1);
            }
            side.step(x, 0, 3);
            why(side, x, 0, 3, 1);
            why(side, x, 0, 1, 0);
            side.step(x, 0, 1);
            why(side, x, 4, 3, 1);
            why(side, x, 4, 1, 1);
            MagpieRuns y = side.rolled(Boards.at(0, 0, 0, 0, 0, 0), FAR, 2, 2);
            for (int used = 0; used < 4; used++) {
                why(side, y, 0, 2, 0);
                why(side, y, 0, 1, 1);
                why(side, y, 0, 4, 1);
                side.step(y, 0, 2);
            }
            why(side, y, 0, 2, 1);
        }
    }

    private void neverADie(Moment... moments) {
        for (Moment moment : moments) {
            MagpieRuns x = moment.made();
            for (int from = BAR; from < 16; from++) {
                for (int die = 1; die <= 6; die++) {
                    check.is("whyNoStep(" + from + ", " + die + ") " + moment, x.whyNoStep(from, die), 1);
                }
            }
        }
        MagpieRuns rolled = Moment.BEHIND_A_ROLL.made();
        check.is("whyNoStep(0, 2) behind a roll", rolled.whyNoStep(0, 2), 0);
        check.is("whyNoStep(0, 1) behind a roll", rolled.whyNoStep(0, 1), 0);
    }

    private void noPiece() {
        for (Side side : Side.BOTH) {
            for (int count = 0; count <= 2; count++) {
                int[] mine = {0, 0, 0, 0, 0, 0};
                Arrays.fill(mine, 0, count, 3);
                MagpieRuns x = side.rolled(mine, FAR, 1, 1);
                why(side, x, 3, 1, count == 0 ? 2 : 0);
                why(side, x, BAR, 1, 2);
                why(side, x, 15, 1, 2);
            }
            MagpieRuns bar = side.rolled(Boards.at(BAR, 0, 0, 0, 0, 0), FAR, 1, 1);
            why(side, bar, BAR, 1, 0);
        }
    }

    private void barFirst() {
        for (Side side : Side.BOTH) {
            for (int count = 0; count <= 2; count++) {
                int[] mine = {4, 4, 4, 4, 4, 4};
                Arrays.fill(mine, 0, count, BAR);
                MagpieRuns x = side.rolled(mine, FAR, 2, 1);
                why(side, x, 4, 2, count == 0 ? 0 : 3);
                why(side, x, BAR, 2, count == 0 ? 2 : 0);
                if (count == 2) {
                    side.step(x, BAR, 2);
                    why(side, x, 4, 1, 3);
                }
                if (count == 1) {
                    side.step(x, BAR, 2);
                    why(side, x, 4, 1, 0);
                }
            }
            MagpieRuns other = side.rolled(Boards.at(4, 4, 4, 4, 4, 4), Boards.at(BAR, 15, 15, 15, 15, 15), 2, 1);
            why(side, other, 4, 2, 0);
        }
    }

    private void blocked() {
        for (Side side : Side.BOTH) {
            for (int count = 0; count <= 6; count++) {
                int[] theirs = {BAR, BAR, BAR, BAR, BAR, BAR};
                Arrays.fill(theirs, 0, count, 5);
                why(side, side.rolled(Boards.at(3, 15, 15, 15, 15, 15), theirs, 2, 2), 3, 2, count < 2 ? 0 : 4);
                why(side, side.rolled(Boards.at(BAR, 15, 15, 15, 15, 15), theirs, 6, 6), BAR, 6, count < 2 ? 0 : 4);
                int[] atEnd = theirs.clone();
                Arrays.fill(atEnd, 0, count, 15);
                why(side, side.rolled(Boards.at(9, 9, 9, 9, 9, 9), atEnd, 6, 6), 9, 6, count < 2 ? 0 : 4);
            }
            MagpieRuns own = side.rolled(Boards.at(3, 5, 5, 5, 5, 5), FAR, 2, 2);
            why(side, own, 3, 2, 0);
            MagpieRuns over = side.rolled(Boards.at(3, 15, 15, 15, 15, 15), Boards.at(4, 4, 6, 6, 2, 2), 2, 2);
            why(side, over, 3, 2, 0);
        }
    }

    private void leadsOff() {
        for (Side side : Side.BOTH) {
            for (int die = 1; die <= 6; die++) {
                int last = 15 - die;
                int[] theirs = Boards.at(0, 0, 1, 1, 2, 2);
                why(side, side.rolled(Boards.at(8, last, last, last, last, last), theirs, die, die), last, die, 0);
                int first = 16 - die;
                why(side, side.rolled(Boards.at(8, first, first, first, first, first), theirs, die, die), first, die, 5);
            }
        }
    }

    /** A step off the run is always one of a piece that is not on the bar: the reason 3 comes first. */
    private void offWithBar() {
        for (Side side : Side.BOTH) {
            MagpieRuns x = side.rolled(Boards.at(BAR, 15, 15, 15, 15, 15), FAR_BACK, 1, 1);
            why(side, x, 15, 1, 3);
            side.step(x, BAR, 1);
            why(side, x, 15, 1, 5);
            MagpieRuns y = side.rolled(Boards.at(12, 15, 15, 15, 15, 15), FAR_BACK, 1, 1);
            why(side, y, 15, 1, 0);
        }
    }

    private static final int[] FAR_BACK = {1, 1, 2, 2, 3, 3};

    private void offWithOneNotHome() {
        for (Side side : Side.BOTH) {
            why(side, side.rolled(Boards.at(11, 15, 15, 15, 15, 15), FAR_BACK, 1, 1), 15, 1, 5);
            why(side, side.rolled(Boards.at(12, 15, 15, 15, 15, 15), FAR_BACK, 1, 1), 15, 1, 0);
            why(side, side.rolled(Boards.at(0, 15, 15, 15, 15, 15), FAR_BACK, 1, 1), 15, 1, 5);
            why(side, side.rolled(Boards.at(11, 15, 15, 15, 15, 15), FAR_BACK, 5, 5), 11, 5, 5);
            why(side, side.rolled(Boards.at(12, 15, 15, 15, 15, 15), FAR_BACK, 4, 4), 12, 4, 0);
            why(side, side.rolled(Boards.at(11, OFF, OFF, OFF, OFF, OFF), FAR_BACK, 6, 6), 11, 6, 5);
            why(side, side.rolled(Boards.at(12, OFF, OFF, OFF, OFF, OFF), FAR_BACK, 6, 6), 12, 6, 0);
            MagpieRuns x = side.rolled(Boards.at(11, 15, 15, 15, 15, 15), FAR_BACK, 1, 1);
            side.step(x, 11, 1);
            why(side, x, 15, 1, 0);
        }
    }

    private void dieGreaterThanWay() {
        for (Side side : Side.BOTH) {
            for (int point = 13; point <= 15; point++) {
                int way = 16 - point;
                for (int die = 1; die <= 6; die++) {
                    MagpieRuns x = side.rolled(Boards.at(point - 1, point, point, OFF, OFF, OFF), FAR_BACK, die, die);
                    why(side, x, point, die, die > way ? 5 : 0);
                    why(side, x, point - 1, die, 0);
                }
            }
        }
    }

    private void longerWay() {
        for (Side side : Side.BOTH) {
            MagpieRuns x = side.rolled(Boards.at(13, 14, 14, 15, 15, OFF), FAR_BACK, 6, 6);
            why(side, x, 13, 6, 0);
            why(side, x, 14, 6, 5);
            why(side, x, 15, 6, 5);
            side.step(x, 13, 6);
            why(side, x, 14, 6, 0);
            why(side, x, 15, 6, 5);
            side.step(x, 14, 6);
            why(side, x, 14, 6, 0);
            why(side, x, 15, 6, 5);
            side.step(x, 14, 6);
            why(side, x, 15, 6, 0);
            MagpieRuns all = side.rolled(Boards.at(12, 12, 12, 12, 12, 12), FAR_BACK, 5, 5);
            why(side, all, 12, 5, 0);
        }
    }

    /** By 2 the last step that the other die could make is lost; by 1 it is not. */
    private void reachIsLess() {
        for (Side side : Side.BOTH) {
            int[] theirs = {1, 1, 3, 3, 5, 5};
            MagpieRuns x = side.rolled(Boards.at(0, 13, 15, 15, 15, 15), theirs, 2, 1);
            check.is(side + "reach ahead", x.reach(), 2);
            why(side, x, 13, 2, 6);
            why(side, x, 13, 1, 0);
            why(side, x, 0, 2, 0);
            check.raises(side + "a step of reason 6", x, Check.STATE, () -> side.step(x, 13, 2));
            side.step(x, 0, 2);
            check.is(side + "reach behind", x.reach(), 1);
            why(side, x, 13, 1, 0);
            MagpieRuns free = side.rolled(Boards.at(0, 13, 15, 15, 15, 15), Boards.at(9, 9, 3, 3, 5, 5), 2, 1);
            check.is(side + "reach with the point 1 free", free.reach(), 2);
            why(side, free, 13, 2, 0);
            MagpieRuns last = side.rolled(Boards.at(13, OFF, OFF, OFF, OFF, OFF), theirs, 5, 1);
            check.is(side + "reach of the last piece", last.reach(), 2);
            why(side, last, 13, 5, 6);
            why(side, last, 13, 1, 0);
            MagpieRuns alike = side.rolled(Boards.at(13, OFF, OFF, OFF, OFF, OFF), theirs, 5, 5);
            check.is(side + "reach of the last piece by a double", alike.reach(), 1);
            why(side, alike, 13, 5, 0);
        }
    }

    /** A piece that goes by 1 or by 2, but not by both. */
    private static MagpieRuns oneOfTwo(Side side, int first, int second) {
        return side.rolled(Boards.at(0, 15, 15, 15, 15, 15), Boards.at(3, 3, 5, 5, 7, 7), first, second);
    }

    private void twoUnlikeDice() {
        for (Side side : Side.BOTH) {
            why(side, oneOfTwo(side, 1, 2), 0, 1, 6);
            MagpieRuns one = side.rolled(Boards.at(0, 8, 15, 15, 15, 15), Boards.at(3, 3, 5, 5, 11, 11), 1, 2);
            check.is(side + "reach of both dice", one.reach(), 2);
            why(side, one, 0, 1, 0);
            side.step(one, 8, 2);
            check.is(side + "reach of one die", one.reach(), 1);
            why(side, one, 0, 1, 0);
            MagpieRuns two = side.rolled(Boards.at(0, 15, 15, 15, 15, 15), Boards.at(4, 4, 6, 6, 8, 8), 1, 1);
            check.is(side + "reach of four alike", two.reach(), 3);
            side.step(two, 0, 1);
            side.step(two, 1, 1);
            check.is(side + "two alike dice", two.diceLeft(), 2);
            check.is(side + "reach of two alike", two.reach(), 1);
            why(side, two, 2, 1, 0);
        }
    }

    private void reachIsOne() {
        for (Side side : Side.BOTH) {
            MagpieRuns x = oneOfTwo(side, 1, 2);
            check.is(side + "reach", x.reach(), 1);
            why(side, x, 0, 1, 6);
            MagpieRuns y = side.rolled(Boards.at(0, 15, 15, 15, 15, 15), Boards.at(4, 4, 5, 5, 7, 7), 1, 2);
            check.is(side + "reach with the point 3 free", y.reach(), 2);
            why(side, y, 0, 1, 0);
            why(side, y, 0, 2, 0);
        }
    }

    private void lesserDie() {
        for (Side side : Side.BOTH) {
            for (int lesser = 1; lesser <= 5; lesser++) {
                int block = 2 * lesser + 1;
                int[] theirs = {block, block, block, block, block, block};
                MagpieRuns x = side.rolled(Boards.at(0, OFF, OFF, OFF, OFF, OFF), theirs, lesser, lesser + 1);
                why(side, x, 0, lesser, 6);
                why(side, x, 0, lesser + 1, 0);
                MagpieRuns y = side.rolled(Boards.at(0, OFF, OFF, OFF, OFF, OFF), theirs, lesser + 1, lesser);
                why(side, y, 0, lesser, 6);
                why(side, y, 0, lesser + 1, 0);
            }
        }
    }

    private void greaterIsAllowed() {
        for (Side side : Side.BOTH) {
            MagpieRuns x = oneOfTwo(side, 2, 1);
            why(side, x, 0, 2, 0);
            why(side, x, 0, 1, 6);
            MagpieRuns y = side.rolled(Boards.at(0, 15, 15, 15, 15, 15), Boards.at(3, 3, 2, 2, 7, 7), 2, 1);
            check.is(side + "reach", y.reach(), 1);
            why(side, y, 0, 2, 4);
            why(side, y, 0, 1, 0);
            MagpieRuns bar = side.rolled(Boards.at(BAR, 15, 15, 15, 15, 15), Boards.at(2, 2, 7, 7, 9, 9), 1, 2);
            why(side, bar, BAR, 1, 6);
            why(side, bar, BAR, 2, 0);
            MagpieRuns off = side.rolled(Boards.at(15, OFF, OFF, OFF, OFF, OFF), FAR_BACK, 6, 5);
            why(side, off, 15, 5, 6);
            why(side, off, 15, 6, 0);
        }
    }

    private void blotIsHit() {
        for (Side side : Side.BOTH) {
            for (int count = 0; count <= 1; count++) {
                int[] theirs = {15, 15, 15, 15, 15, 15};
                Arrays.fill(theirs, 0, count, 5);
                MagpieRuns x = side.rolled(Boards.at(3, 3, 3, 3, 3, 3), theirs, 2, 2);
                check.is(side + "step onto " + count, side.step(x, 3, 2), count == 1);
                check.is(side + "hits", x.hits(side.other), count);
                check.is(side + "step onto a point of its own", side.step(x, 3, 2), false);
                check.is(side + "hits", x.hits(side.other), count);
                MagpieRuns bar = side.rolled(Boards.at(BAR, 3, 3, 3, 3, 3), theirs, 6, 6);
                check.is(side + "step from the bar onto " + count, bar.step(BAR, 6), count == 1);
            }
            MagpieRuns over = side.rolled(Boards.at(3, 3, 3, 3, 3, 3), Boards.at(4, 6, 15, 15, 15, 15), 2, 2);
            check.is(side + "a step over a blot", side.step(over, 3, 2), false);
            check.is(side + "blots on both sides", side.theirsOn(over, 4) + side.theirsOn(over, 6), 2);
            MagpieRuns off = side.rolled(Boards.at(14, 14, 15, 15, 15, 15), Boards.at(0, 1, 2, 3, 4, 5), 2, 2);
            check.is(side + "a step off the run", side.step(off, 14, 2), false);
            check.is(side + "hits", off.hits(side.other), 0);
        }
    }

    private void hitComesOntoBar() {
        for (Side side : Side.BOTH) {
            MagpieRuns x = side.rolled(Boards.at(0, 0, 0, 0, 0, 0), Boards.at(1, 2, 3, 15, 15, 15), 1, 1);
            for (int hit = 1; hit <= 3; hit++) {
                check.is(side + "a hit", side.step(x, hit - 1, 1), true);
                check.is(side + "on the bar", x.onBar(side.other), hit);
                check.is(side + "not on the point", side.theirsOn(x, hit), 0);
                check.is(side + "the hitting piece", side.mineOn(x, hit), 1);
                check.is(side + "pips of the one hit", x.pips(side.other),
                        hit * 17 + (hit < 2 ? 3 : 0) + (hit < 3 ? 4 : 0) + 3 * 16);
            }
            side.step(x, 3, 1);
            x.endTurn();
            x.roll(2, 3);
            check.is(side + "it has to enter", x.whyNoStep(side.at(15), 2), 3);
            check.is(side + "it may enter", x.whyNoStep(BAR, 2), 0);
        }
    }

    private void diceOfRoll() {
        for (int first = 1; first <= 6; first++) {
            for (int second = 1; second <= 6; second++) {
                MagpieRuns x = new MagpieRuns();
                int due = first == second ? 4 : 2;
                check.is("roll(" + first + ", " + second + ")", x.roll(first, second), due);
                check.is("diceLeft of " + first + ", " + second, x.diceLeft(), due);
                for (int number = 0; number < due; number++) {
                    check.is("dieLeft(" + number + ")", x.dieLeft(number), number % 2 == 0 ? first : second);
                }
            }
        }
    }

    private void reach() {
        for (Side side : Side.BOTH) {
            for (int block = 1; block <= 6; block++) {
                int[] theirs = {block, block, block, block, block, block};
                MagpieRuns x = side.rolled(Boards.at(0, OFF, OFF, OFF, OFF, OFF), theirs, 1, 1);
                check.is(side + "reach to a block on " + block, x.reach(), Math.min(4, block - 1));
            }
            int[] one = {0, OFF, OFF, OFF, OFF, OFF};
            check.is(side + "no step", side.rolled(one, Boards.at(1, 1, 2, 2, 9, 9), 1, 2).reach(), 0);
            check.is(side + "one step, by 1", side.rolled(one, Boards.at(2, 2, 3, 3, 9, 9), 1, 2).reach(), 1);
            check.is(side + "one step, by either", side.rolled(one, Boards.at(3, 3, 4, 4, 9, 9), 1, 2).reach(), 1);
            check.is(side + "two steps, one order", side.rolled(one, Boards.at(1, 1, 4, 4, 9, 9), 1, 2).reach(), 2);
            check.is(side + "two steps, the other order", side.rolled(one, Boards.at(2, 2, 4, 4, 9, 9), 1, 2).reach(), 2);
            int[] last = {15, OFF, OFF, OFF, OFF, OFF};
            check.is(side + "one piece is off", side.rolled(last, FAR_BACK, 1, 1).reach(), 1);
            int[] two = {15, 15, OFF, OFF, OFF, OFF};
            check.is(side + "two pieces are off", side.rolled(two, FAR_BACK, 6, 5).reach(), 2);
            check.is(side + "two pieces, four dice", side.rolled(two, FAR_BACK, 3, 3).reach(), 2);
            int[] bar = {BAR, BAR, 0, 0, 0, 0};
            check.is(side + "one of two enters", side.rolled(bar, Boards.at(1, 1, 9, 9, 9, 9), 1, 2).reach(), 1);
            check.is(side + "none enters", side.rolled(bar, Boards.at(1, 1, 2, 2, 9, 9), 3, 2).reach(), 0);
        }
    }

    private void turnEnds() {
        MagpieRuns x = new MagpieRuns();
        x.roll(3, 1);
        check.raises("endTurn with two dice", x, Check.STATE, x::endTurn);
        x.step(0, 3);
        check.raises("endTurn with one die", x, Check.STATE, x::endTurn);
        check.is("the mover has not said so", x.mover(), 0);
        x.step(0, 1);
        check.is("the mover has not said so, no dice", x.mover(), 0);
        check.is("endTurn without dice", x.endTurn(), 1);
        MagpieRuns stuck = Moment.NO_STEP_POSSIBLE.made();
        check.is("possibleSteps", stuck.possibleSteps(), 0);
        check.is("endTurn without steps", stuck.endTurn(), 1);
        MagpieRuns one = oneOfTwo(Side.BOTH[0], 1, 2);
        check.raises("endTurn with one step", one, Check.STATE, one::endTurn);
        one.step(0, 2);
        check.is("endTurn with a die that makes no step", one.endTurn(), 1);
    }

    private void otherOneIsMover() {
        for (Moment moment : new Moment[] {Moment.ALL_DICE_USED, Moment.NO_STEP_POSSIBLE}) {
            MagpieRuns x = moment.made();
            check.is("endTurn " + moment, x.endTurn(), 1);
            check.is("mover behind " + moment, x.mover(), 1);
            check.is("diceLeft behind " + moment, x.diceLeft(), 0);
            check.is("phase behind " + moment, x.phase(), 0);
            x.roll(6, 5);
            check.is("the dice are new", x.dieLeft(0) * 10 + x.dieLeft(1), 65);
        }
        MagpieRuns back = new MagpieRuns();
        back.roll(4, 4);
        back.step(0, 4);
        back.step(0, 4);
        back.endTurn();
        back.roll(4, 4);
        back.step(15, 4);
        back.step(15, 4);
        check.is("the turn comes back to 0", back.endTurn(), 0);
    }

    private void stepAnswersAsReason() {
        for (Side side : Side.BOTH) {
            MagpieRuns x = side.rolled(Boards.at(0, 13, 15, 15, 15, 15), Boards.at(1, 1, 3, 3, 5, 5), 2, 1);
            for (int from = BAR; from < 16; from++) {
                for (int die = 1; die <= 6; die++) {
                    int at = from;
                    int by = die;
                    MagpieRuns y = side.rolled(Boards.at(0, 13, 15, 15, 15, 15), Boards.at(1, 1, 3, 3, 5, 5), 2, 1);
                    Object made = Check.outcome(() -> y.step(at, by));
                    check.is(side + "step from " + at + " by " + by + " is possible",
                            made.equals("throws.IllegalStateException"), x.whyNoStep(from, die) != 0);
                }
            }
        }
    }

    private void froms() {
        for (Side side : Side.BOTH) {
            MagpieRuns x = side.rolled(Boards.at(0, 0, 0, 15, 15, 15), Boards.at(5, 5, 5, 5, 5, 5), 1, 1);
            why(side, x, 0, 1, 0);
            why(side, x, 15, 1, 5);
            why(side, x, BAR, 1, 2);
            why(side, x, 14, 1, 2);
            MagpieRuns bar = side.rolled(Boards.at(BAR, 0, 0, 15, 15, 15), Boards.at(5, 5, 5, 5, 5, 5), 1, 1);
            why(side, bar, BAR, 1, 0);
            why(side, bar, 0, 1, 3);
        }
    }

    private void dice() {
        for (int die = 1; die <= 6; die++) {
            MagpieRuns x = Boards.with(Boards.at(0, 0, 0, 0, 0, 0), FAR);
            x.roll(die, die);
            for (int other = 1; other <= 6; other++) {
                check.is("whyNoStep(0, " + other + ")", x.whyNoStep(0, other), other == die ? 0 : 1);
            }
        }
        for (Moment moment : Moment.values()) {
            check.answers("whyNoStep(0, 1) " + moment, moment.made(), x -> x.whyNoStep(0, 1));
            check.answers("whyNoStep(0, 6) " + moment, moment.made(), x -> x.whyNoStep(0, 6));
        }
    }

    private void allReasons() {
        for (Side side : Side.BOTH) {
            MagpieRuns x = side.rolled(Boards.at(0, 13, 15, 15, 15, 15), Boards.at(1, 1, 3, 3, 5, 5), 2, 1);
            why(side, x, 13, 1, 0);
            why(side, x, 13, 3, 1);
            why(side, x, 12, 1, 2);
            why(side, x, 0, 1, 4);
            why(side, x, 15, 1, 5);
            why(side, x, 13, 2, 6);
            MagpieRuns y = side.rolled(Boards.at(BAR, 13, 15, 15, 15, 15), Boards.at(1, 1, 3, 3, 5, 5), 2, 1);
            why(side, y, 13, 1, 3);
        }
    }

    private void noSuchPoint() {
        for (Moment moment : Moment.values()) {
            for (int from : NO_POINTS) {
                check.refused("whyNoStep(" + from + ", 1) " + moment, moment::made, Check.BOUNDS, x -> x.whyNoStep(from, 1));
                check.refused("whyNoStep(" + from + ", 0) " + moment, moment::made, Check.BOUNDS, x -> x.whyNoStep(from, 0));
            }
            check.answers("whyNoStep(-1, 1) " + moment, moment.made(), x -> x.whyNoStep(-1, 1));
            check.answers("whyNoStep(0, 1) " + moment, moment.made(), x -> x.whyNoStep(0, 1));
            check.answers("whyNoStep(15, 1) " + moment, moment.made(), x -> x.whyNoStep(15, 1));
        }
    }

    private void dieOutOfRange() {
        for (Moment moment : Moment.values()) {
            for (int die : NO_DICE) {
                check.refused("whyNoStep(0, " + die + ") " + moment, moment::made, Check.ARGUMENT, x -> x.whyNoStep(0, die));
                check.refused("whyNoStep(-1, " + die + ") " + moment, moment::made, Check.ARGUMENT, x -> x.whyNoStep(-1, die));
            }
        }
    }

    private void possible(MagpieRuns x, int due) {
        check.is("possibleSteps", x.possibleSteps(), due);
        int count = 0;
        for (int from = BAR; from < 16; from++) {
            for (int die = 1; die <= 6; die++) {
                count += x.whyNoStep(from, die) == 0 ? 1 : 0;
            }
        }
        check.is("steps without a reason", count, due);
    }

    private void possibleSteps() {
        for (Moment moment : Moment.values()) {
            if (moment != Moment.BEHIND_A_ROLL) {
                possible(moment.made(), 0);
            }
        }
        for (Side side : Side.BOTH) {
            int[] theirs = {1, 1, 3, 3, 5, 5};
            possible(side.rolled(Boards.at(0, 13, 15, 15, 15, 15), theirs, 2, 1), 2);
            possible(oneOfTwo(side, 1, 2), 1);
            possible(side.rolled(Boards.at(0, 1, 2, 3, 4, 5), Boards.at(15, 15, 14, 14, 13, 13), 1, 2), 12);
            possible(side.rolled(Boards.at(0, 1, 2, 3, 4, 5), Boards.at(15, 15, 14, 14, 13, 13), 2, 2), 6);
        }
    }

    private void pairs() {
        for (Side side : Side.BOTH) {
            int[] theirs = {15, 15, 15, 15, 15, 15};
            possible(side.rolled(Boards.at(0, 0, 0, 0, 0, 0), theirs, 1, 1), 1);
            possible(side.rolled(Boards.at(0, 0, 0, 0, 0, 0), theirs, 1, 2), 2);
            possible(side.rolled(Boards.at(0, 0, 0, 5, 5, 5), theirs, 1, 1), 2);
            possible(side.rolled(Boards.at(0, 0, 0, 5, 5, 5), theirs, 1, 2), 4);
            possible(side.rolled(Boards.at(BAR, BAR, BAR, 5, 5, 5), theirs, 1, 1), 1);
            possible(side.rolled(Boards.at(BAR, 0, 0, 5, 5, 5), theirs, 1, 2), 2);
            for (int place = BAR; place < 16; place++) {
                int[] one = {place, OFF, OFF, OFF, OFF, OFF};
                MagpieRuns x = side.rolled(one, Boards.at(OFF, OFF, OFF, OFF, OFF, BAR), 1, 1);
                possible(x, 1);
                check.is(side + "the step from " + place, side.why(x, place, 1), 0);
            }
        }
    }

    private void reachOfDiceLeft() {
        for (Moment moment : Moment.values()) {
            check.is("reach " + moment, moment.made().reach(), moment == Moment.BEHIND_A_ROLL ? 2 : 0);
        }
        for (Side side : Side.BOTH) {
            MagpieRuns x = side.rolled(Boards.at(0, 0, 0, 0, 0, 0), FAR, 3, 3);
            for (int left = 4; left > 0; left--) {
                check.is(side + "reach of " + left, x.reach(), left);
                side.step(x, 0, 3);
            }
            check.is(side + "reach of no dice", x.reach(), 0);
            MagpieRuns y = oneOfTwo(side, 1, 2);
            check.is(side + "reach of two", y.reach(), 1);
            side.step(y, 0, 2);
            check.is(side + "reach of one that is blocked", y.reach(), 0);
        }
    }
}
