import java.util.List;
import java.util.function.Supplier;

/** Long rows of calls, drawn by a fixed row of numbers, on the program and on the reference. */
public final class ReferenceTest {
    private static final String SIGNS = "rmbextdn;.0123456789";
    private static final int RUNS = 240;
    private static final int CALLS = 110;

    private final Check check = new Check();
    private long seed;
    private MagpieRuns x;
    private Reference due;
    private String said;

    public static void main(String[] args) {
        new ReferenceTest().all();
    }

    private void all() {
        for (int run = 0; run < RUNS; run++) {
            seed = 77L * run + 5;
            x = new MagpieRuns();
            due = new Reference();
            said = "run " + run + ": ";
            if (run % 3 != 0) {
                scatter(run % 3 == 1);
            }
            for (int i = 0; i < CALLS; i++) {
                change();
                look();
                if (i % 10 == 9) {
                    lookAtAll();
                }
            }
        }
        check.end("ReferenceTest");
    }

    /** A number from 0 to below the bound. */
    private int draw(int bound) {
        seed = seed * 6364136223846793005L + 1442695040888963407L;
        return (int) ((seed >>> 33) % bound);
    }

    private void same(String call, Supplier<Object> got, Supplier<Object> wanted) {
        check.is(said + call, Check.outcome(got), Check.outcome(wanted));
    }

    /** Puts the pieces of both players anywhere, some near the end of their way. */
    private void scatter(boolean nearHome) {
        for (int player = 0; player < 2; player++) {
            for (int from = 0; from < 16; from++) {
                int count = due.piecesOn(player, from);
                for (int i = 0; i < count; i++) {
                    carry(player, from, -1);
                }
            }
        }
        for (int player = 0; player < 2; player++) {
            for (int i = 0; i < 6; i++) {
                int far = nearHome ? draw(6) : draw(19) - 1;
                int to = player == 0 ? 15 - far : far;
                carry(player, -1, far > 15 || far < 0 ? 16 - draw(2) * 17 : to);
            }
        }
    }

    private void carry(int player, int from, int to) {
        same("carry(" + player + ", " + from + ", " + to + ")",
                () -> x.carry(player, from, to), () -> due.carry(player, from, to));
    }

    private void change() {
        int kind = draw(100);
        if (kind < 22) {
            int first = draw(25) == 0 ? draw(9) - 1 : 1 + draw(6);
            int second = draw(25) == 0 ? draw(9) - 1 : draw(4) == 0 ? first : 1 + draw(6);
            same("roll(" + first + ", " + second + ")", () -> x.roll(first, second),
                    () -> due.roll(first, second));
        } else if (kind < 58) {
            step();
        } else if (kind < 70) {
            same("endTurn()", () -> x.endTurn(), () -> due.endTurn());
        } else if (kind < 74) {
            carry(draw(40) == 0 ? draw(4) - 1 : draw(2), draw(20) - 2, draw(20) - 2);
        } else if (kind < 82) {
            changeStake(draw(8));
        } else if (kind < 94) {
            changeText(draw(10));
        } else {
            changePast(draw(8));
        }
    }

    private void step() {
        List<int[]> steps = due.steps();
        boolean anywhere = steps.isEmpty() || draw(5) == 0;
        int[] pair = anywhere ? new int[] {draw(19) - 2, draw(30) == 0 ? draw(9) - 1 : 1 + draw(6)}
                : steps.get(draw(steps.size()));
        String call = "(" + pair[0] + ", " + pair[1] + ")";
        same("blotsBehind" + call, () -> x.blotsBehind(pair[0], pair[1]),
                () -> due.blotsBehind(pair[0], pair[1]));
        same("step" + call, () -> x.step(pair[0], pair[1]), () -> due.step(pair[0], pair[1]));
    }

    private void changeStake(int kind) {
        if (kind < 3) {
            same("offer()", () -> x.offer(), () -> due.offer());
        } else if (kind < 5) {
            same("take()", () -> x.take(), () -> due.take());
        } else if (kind < 6) {
            same("drop()", () -> x.drop(), () -> due.drop());
        } else {
            same("newGame()", () -> x.newGame(), () -> due.newGame());
        }
    }

    private void changeText(int kind) {
        if (kind < 2) {
            append(draw(12) == 0 ? 30 + draw(100) : SIGNS.charAt(draw(SIGNS.length())));
        } else if (kind < 7) {
            writeParts(1 + draw(draw(6) == 0 ? 20 : 5));
        } else if (kind < 9) {
            same("play()", () -> x.play(), () -> due.play());
        } else {
            same("clearBuffer()", () -> x.clearBuffer(), () -> due.clearBuffer());
        }
        same("firstError()", () -> x.firstError(), () -> due.firstError());
    }

    private void append(int code) {
        same("append(" + code + ")", () -> x.append(code), () -> due.append(code));
    }

    /** Writes some parts, of which the first may well be possible, and mostly plays them. */
    private void writeParts(int count) {
        if (draw(4) != 0) {
            same("clearBuffer()", () -> x.clearBuffer(), () -> due.clearBuffer());
        }
        StringBuilder text = new StringBuilder();
        for (int i = 0; i < count; i++) {
            text.append(i == 0 ? "" : ";").append(part(i == 0));
        }
        if (draw(6) == 0) {
            text.setCharAt(draw(text.length()), SIGNS.charAt(draw(SIGNS.length())));
        }
        for (int i = 0; i < text.length(); i++) {
            append(text.charAt(i));
        }
        if (draw(4) != 0) {
            same("play()", () -> x.play(), () -> due.play());
        }
    }

    private String part(boolean atFirst) {
        List<int[]> steps = due.steps();
        if (atFirst && !steps.isEmpty()) {
            int[] pair = steps.get(draw(steps.size()));
            return (pair[0] < 0 ? "b" : "m" + pair[0]) + "." + pair[1];
        }
        switch (draw(10)) {
            case 0: case 1: case 2:
                return "r" + (1 + draw(6)) + (1 + draw(6));
            case 3: case 4:
                return "m" + draw(16) + "." + (1 + draw(6));
            case 5:
                return "b." + (1 + draw(6));
            case 6:
                return "e";
            default:
                return "" + "xxtdn".charAt(draw(5));
        }
    }

    private void changePast(int kind) {
        if (kind < 4) {
            same("undo()", () -> x.undo(), () -> due.undo());
        } else if (kind < 6) {
            same("keep()", () -> x.keep(), () -> due.keep());
        } else {
            same("restore()", () -> x.restore(), () -> due.restore());
        }
    }

    private void look() {
        int player = draw(30) == 0 ? draw(6) - 2 : draw(2);
        int point = draw(19) - 2;
        int die = draw(9) - 1;
        same("mover()", () -> x.mover(), () -> due.mover());
        same("phase()", () -> x.phase(), () -> due.phase());
        same("savedStates()", () -> x.savedStates(), () -> due.savedStates());
        same("hasStopped()", () -> x.hasStopped(), () -> due.hasStopped());
        same("stoppedPart()", () -> x.stoppedPart(), () -> due.stoppedPart());
        same("dieLeft(" + (die - 1) + ")", () -> x.dieLeft(die - 1), () -> due.dieLeft(die - 1));
        same("pips(" + player + ")", () -> x.pips(player), () -> due.pips(player));
        same("entering(" + player + ")", () -> x.entering(player), () -> due.entering(player));
        same("piecesOn(" + player + ", " + point + ")", () -> x.piecesOn(player, point),
                () -> due.piecesOn(player, point));
        same("whyNoStep(" + point + ", " + die + ")", () -> x.whyNoStep(point, die),
                () -> due.whyNoStep(point, die));
        same("possibleSteps()", () -> x.possibleSteps(), () -> due.possibleSteps());
        same("reach()", () -> x.reach(), () -> due.reach());
    }

    private void lookAtAll() {
        same("digest()", () -> x.digest(), () -> due.digest());
        same("plays()", () -> x.plays(), () -> due.plays());
        same("playsByOrders()", () -> x.playsByOrders(), () -> due.playsByOrders());
        same("lead()", () -> x.lead(), () -> due.lead());
        for (int point = -1; point <= 16; point++) {
            int at = point;
            same("shots(" + at + ")", () -> x.shots(at), () -> due.shots(at));
            same("shotsByKinds(" + at + ")", () -> x.shotsByKinds(at), () -> due.shotsByKinds(at));
            for (int die = 1; die <= 6; die++) {
                int by = die;
                same("whyNoStep(" + (at - 1) + ", " + by + ")", () -> x.whyNoStep(at - 1, by),
                        () -> due.whyNoStep(at - 1, by));
            }
        }
        int first = draw(8);
        int second = draw(3) == 0 ? first : draw(8);
        same("playsWith(" + first + ", " + second + ")", () -> x.playsWith(first, second),
                () -> due.playsWith(first, second));
        for (int player = -1; player <= 2; player++) {
            int of = player;
            same("onBar(" + of + ")", () -> x.onBar(of), () -> due.onBar(of));
            same("borneOff(" + of + ")", () -> x.borneOff(of), () -> due.borneOff(of));
            same("pips(" + of + ")", () -> x.pips(of), () -> due.pips(of));
            same("blots(" + of + ")", () -> x.blots(of), () -> due.blots(of));
            same("blockade(" + of + ")", () -> x.blockade(of), () -> due.blockade(of));
            same("score(" + of + ")", () -> x.score(of), () -> due.score(of));
            same("hits(" + of + ")", () -> x.hits(of), () -> due.hits(of));
            same("entering(" + of + ")", () -> x.entering(of), () -> due.entering(of));
        }
    }
}
