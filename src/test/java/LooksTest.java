import java.util.List;
import java.util.function.Function;

/** Promises 20 to 33: looks at the run. */
public final class LooksTest {
    private static final Check check = new Check();
    private static final int BAR = Boards.BAR;
    private static final int OFF = Boards.OFF;

    public static void main(String[] args) {
        moverAndPhase();
        dice();
        pieces();
        pips();
        blots();
        blockade();
        stakeAndCube();
        scoreAndHits();
        wrongPlayers();
        looksChangeNothing();
        check.end("LooksTest");
    }

    private static void moverAndPhase() {
        MagpieRuns x = new MagpieRuns();
        check.is("phase, a roll", x.phase(), 0);
        x.roll(2, 1);
        check.is("phase, steps", x.phase(), 1);
        x.step(0, 2);
        x.step(0, 1);
        check.is("phase, no dice left", x.phase(), 1);
        check.is("mover", x.mover(), 0);
        x.endTurn();
        check.is("mover of the next turn", x.mover(), 1);
        x.offer();
        check.is("phase, a double", x.phase(), 2);
        check.is("mover behind an offer", x.mover(), 1);
        x.drop();
        check.is("phase, over", x.phase(), 3);
        check.is("mover with the game over", x.mover(), 1);
        x.newGame();
        check.is("phase of a new game", x.phase(), 0);
        check.is("mover of a new game", x.mover(), 0);
    }

    private static void dice() {
        MagpieRuns x = new MagpieRuns();
        check.is("diceLeft", x.diceLeft(), 0);
        check.raises("dieLeft(0) without dice", x, Check.BOUNDS, () -> x.dieLeft(0));
        x.roll(5, 2);
        check.is("diceLeft", x.diceLeft(), 2);
        check.is("dieLeft(0)", x.dieLeft(0), 5);
        check.is("dieLeft(1)", x.dieLeft(1), 2);
        for (int number : new int[] {-1, 2, 3, 4, 32, Integer.MAX_VALUE, Integer.MIN_VALUE}) {
            check.raises("dieLeft(" + number + ")", x, Check.BOUNDS, () -> x.dieLeft(number));
        }
        x.step(0, 5);
        check.is("diceLeft", x.diceLeft(), 1);
        check.is("the second die is the first now", x.dieLeft(0), 2);
        check.raises("dieLeft(1)", x, Check.BOUNDS, () -> x.dieLeft(1));
        MagpieRuns y = new MagpieRuns();
        y.roll(3, 3);
        for (int left = 4; left > 0; left--) {
            check.is("diceLeft", y.diceLeft(), left);
            check.is("the last die", y.dieLeft(left - 1), 3);
            int none = left;
            check.raises("dieLeft(" + none + ")", y, Check.BOUNDS, () -> y.dieLeft(none));
            y.step(left > 2 ? 0 : left > 1 ? 3 : 4, 3);
        }
        check.is("diceLeft", y.diceLeft(), 0);
    }

    private static void pieces() {
        MagpieRuns x = Boards.with(Boards.at(BAR, BAR, 0, 15, 15, OFF), Boards.at(1, 1, 1, 14, OFF, OFF));
        int[] due0 = {1, 0, 0, 0, 0, 0, 0, 0, 0, 0, 0, 0, 0, 0, 0, 2};
        int[] due1 = {0, 3, 0, 0, 0, 0, 0, 0, 0, 0, 0, 0, 0, 0, 1, 0};
        for (int point = 0; point < 16; point++) {
            check.is("piecesOn(0, " + point + ")", x.piecesOn(0, point), due0[point]);
            check.is("piecesOn(1, " + point + ")", x.piecesOn(1, point), due1[point]);
        }
        check.is("onBar(0)", x.onBar(0), 2);
        check.is("onBar(1)", x.onBar(1), 0);
        check.is("borneOff(0)", x.borneOff(0), 1);
        check.is("borneOff(1)", x.borneOff(1), 2);
        for (int point : new int[] {-1, 16, -17, Integer.MAX_VALUE, Integer.MIN_VALUE}) {
            check.raises("piecesOn(0, " + point + ")", x, Check.BOUNDS, () -> x.piecesOn(0, point));
            check.raises("piecesOn(1, " + point + ")", x, Check.BOUNDS, () -> x.piecesOn(1, point));
        }
        MagpieRuns y = Boards.with(Boards.at(BAR, BAR, BAR, BAR, BAR, BAR), Boards.at(7, 7, 7, 7, 7, 7));
        check.is("six on the bar", y.onBar(0), 6);
        check.is("six on a point", y.piecesOn(1, 7), 6);
    }

    private static void pips() {
        MagpieRuns x = Boards.with(Boards.at(BAR, 0, 11, 15, 15, OFF), Boards.at(BAR, 1, 10, 14, OFF, OFF));
        check.is("pips(0)", x.pips(0), 17 + 16 + 5 + 1 + 1);
        check.is("pips(1)", x.pips(1), 17 + 2 + 11 + 15);
        MagpieRuns y = Boards.with(Boards.at(OFF, OFF, OFF, OFF, OFF, 15), Boards.at(BAR, 0, 11, 14, OFF, OFF));
        check.is("pips(1)", y.pips(1), 17 + 1 + 12 + 15);
        check.is("pips(0)", y.pips(0), 1);
        y.roll(1, 2);
        y.step(15, 2);
        check.is("pips of a player with all off", y.pips(0), 0);
    }

    private static void blots() {
        MagpieRuns x = Boards.with(Boards.at(BAR, 0, 11, 15, 15, OFF), Boards.at(1, 2, 3, 4, 5, 6));
        check.is("blots(0)", x.blots(0), 2);
        check.is("blots(1)", x.blots(1), 6);
        MagpieRuns y = Boards.with(Boards.at(BAR, OFF, 15, 15, 15, 0), Boards.at(1, 1, 2, 2, 3, 3));
        check.is("neither bar nor off is a blot", y.blots(0), 1);
        check.is("blots(1)", y.blots(1), 0);
        MagpieRuns z = Boards.with(Boards.at(0, 15, 3, 3, 3, 3), Boards.at(OFF, 10, 10, 10, 10, 10));
        check.is("blots at both ends", z.blots(0), 2);
    }

    private static void blockade() {
        MagpieRuns x = Boards.with(Boards.at(0, 0, 1, 1, 2, 2), Boards.at(3, 3, 4, 6, 6, 15));
        check.is("three blocks side by side", x.blockade(0), 3);
        check.is("two blocks apart", x.blockade(1), 1);
        MagpieRuns y = Boards.with(Boards.at(15, 15, 14, 14, 12, 12), Boards.at(5, 6, 7, 8, 9, BAR));
        check.is("two of three", y.blockade(0), 2);
        check.is("no block", y.blockade(1), 0);
        MagpieRuns z = Boards.with(Boards.at(BAR, BAR, OFF, OFF, 4, 3), Boards.at(15, 15, 15, 15, 15, 15));
        check.is("neither bar nor off is a block", z.blockade(0), 0);
        check.is("a block of six", z.blockade(1), 1);
        MagpieRuns w = Boards.with(Boards.at(4, 4, 5, 6, 6, 7), Boards.at(0, 0, 15, 15, 15, 15));
        check.is("a blot is between", w.blockade(0), 1);
        check.is("the ends are not side by side", w.blockade(1), 1);
        MagpieRuns v = Boards.with(Boards.at(4, 4, 4, 5, 5, 5), Boards.at(0, 0, 2, 2, 3, 3));
        check.is("blocks of three", v.blockade(0), 2);
        check.is("the longest is the second", v.blockade(1), 2);
    }

    private static void stakeAndCube() {
        MagpieRuns x = new MagpieRuns();
        check.is("stake", x.stake(), 1);
        check.is("cubeOf", x.cubeOf(), -1);
        x.offer();
        x.take();
        check.is("stake", x.stake(), 2);
        check.is("cubeOf", x.cubeOf(), 1);
        x.roll(2, 1);
        x.step(0, 2);
        x.step(0, 1);
        x.endTurn();
        x.offer();
        check.is("cubeOf while offered", x.cubeOf(), 1);
        x.take();
        check.is("stake", x.stake(), 4);
        check.is("cubeOf", x.cubeOf(), 0);
    }

    private static void scoreAndHits() {
        MagpieRuns x = Boards.with(Boards.at(7, 7, 7, 9, 9, 12), Boards.at(8, 10, 11, 11, 13, 15));
        x.roll(1, 1);
        x.step(7, 1);
        x.step(9, 1);
        check.is("hits(1)", x.hits(1), 2);
        check.is("hits(0)", x.hits(0), 0);
        x.step(7, 1);
        x.step(12, 1);
        check.is("hits(1)", x.hits(1), 3);
        x.endTurn();
        x.roll(4, 6);
        check.is("a hit from the bar", x.step(BAR, 4), false);
        check.is("a hit from the bar", x.step(BAR, 6), true);
        check.is("hits(0)", x.hits(0), 1);
        check.is("score(0)", x.score(0), 0);
        check.is("score(1)", x.score(1), 0);
    }

    private static void wrongPlayers() {
        MagpieRuns x = new MagpieRuns();
        List<String> names = List.of("piecesOn", "onBar", "borneOff", "pips", "blots", "blockade",
                "score", "hits", "entering");
        List<Function<Integer, Object>> calls = List.of(player -> x.piecesOn(player, 0), x::onBar,
                x::borneOff, x::pips, x::blots, x::blockade, x::score, x::hits, x::entering);
        for (int i = 0; i < names.size(); i++) {
            for (int player : new int[] {-1, 2, Integer.MAX_VALUE, Integer.MIN_VALUE}) {
                Function<Integer, Object> call = calls.get(i);
                check.raises(names.get(i) + " of " + player, x, Check.BOUNDS, () -> call.apply(player));
            }
        }
    }

    private static void looksChangeNothing() {
        MagpieRuns x = Boards.with(Boards.at(BAR, 0, 11, 14, 15, OFF), Boards.at(1, 3, 3, 4, 5, 6));
        Boards.write(x, "r1");
        x.roll(3, 3);
        long before = x.digest();
        for (int player = 0; player < 2; player++) {
            x.onBar(player);
            x.borneOff(player);
            x.pips(player);
            x.blots(player);
            x.blockade(player);
            x.score(player);
            x.hits(player);
            x.entering(player);
        }
        for (int point = 0; point < 16; point++) {
            x.shots(point);
            x.shotsByKinds(point);
            x.whyNoStep(point, 3);
        }
        x.plays();
        x.playsByOrders();
        x.playsWith(1, 2);
        x.possibleSteps();
        x.reach();
        x.lead();
        x.firstError();
        x.hasStopped();
        check.is("looks change nothing", x.digest(), before);
    }
}
