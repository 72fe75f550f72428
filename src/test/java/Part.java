import java.util.EnumMap;
import java.util.EnumSet;
import java.util.Map;
import java.util.Set;

/** The parts of all that an object shows; "mine" and "theirs" are told from a side. */
enum Part {
    MOVER, PHASE, DICE, STAKE, CUBE, MINE, THEIRS, MY_SCORE, THEIR_SCORE, MY_HITS, THEIR_HITS, STOP,
    BUFFER, SAVED;

    /** What an object shows of each part: its buffer is used up by it. */
    static Map<Part, String> shown(Side side, MagpieRuns x) {
        Map<Part, String> shown = new EnumMap<>(Part.class);
        shown.put(MOVER, "" + x.mover());
        shown.put(PHASE, "" + x.phase());
        shown.put(DICE, dice(x));
        shown.put(STAKE, "" + x.stake());
        shown.put(CUBE, "" + x.cubeOf());
        shown.put(MINE, pieces(x, side.me));
        shown.put(THEIRS, pieces(x, side.other));
        shown.put(MY_SCORE, "" + x.score(side.me));
        shown.put(THEIR_SCORE, "" + x.score(side.other));
        shown.put(MY_HITS, "" + x.hits(side.me));
        shown.put(THEIR_HITS, "" + x.hits(side.other));
        shown.put(STOP, x.hasStopped() + " " + Check.outcome(x::stoppedPart));
        shown.put(SAVED, "" + x.savedStates());
        shown.put(BUFFER, x.firstError() + " of " + x.clearBuffer());
        return shown;
    }

    static Set<Part> unlike(Map<Part, String> one, Map<Part, String> other) {
        Set<Part> parts = EnumSet.noneOf(Part.class);
        for (Part part : values()) {
            if (!one.get(part).equals(other.get(part))) {
                parts.add(part);
            }
        }
        return parts;
    }

    private static String dice(MagpieRuns x) {
        StringBuilder text = new StringBuilder();
        for (int i = 0; i < x.diceLeft(); i++) {
            text.append(x.dieLeft(i)).append(' ');
        }
        return text.toString();
    }

    private static String pieces(MagpieRuns x, int player) {
        StringBuilder text = new StringBuilder();
        text.append(x.onBar(player)).append(' ').append(x.borneOff(player)).append(" on");
        for (int point = 0; point < 16; point++) {
            text.append(' ').append(x.piecesOn(player, point));
        }
        return text.toString();
    }
}
