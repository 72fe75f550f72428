/** All that an object shows, as texts to compare. */
final class Whole {
    /** All that undo and the snapshot bring back. */
    static String state(MagpieRuns x) {
        StringBuilder text = new StringBuilder();
        text.append(x.mover()).append(' ').append(x.phase()).append(' ').append(x.stake());
        text.append(' ').append(x.cubeOf()).append(" dice");
        for (int i = 0; i < x.diceLeft(); i++) {
            text.append(' ').append(x.dieLeft(i));
        }
        for (int player = 0; player < 2; player++) {
            text.append(" player ").append(x.onBar(player)).append(' ').append(x.borneOff(player));
            text.append(' ').append(x.score(player)).append(' ').append(x.hits(player)).append(" on");
            for (int point = 0; point < 16; point++) {
                text.append(' ').append(x.piecesOn(player, point));
            }
        }
        return text.append(" stop ").append(x.hasStopped() ? x.stoppedPart() : -1).toString();
    }

    /**
     * The state, the buffer, each saved state and the snapshot: the object is used up by it. The
     * digest shows the buffer and the number of saved states.
     */
    static String everything(MagpieRuns x) {
        StringBuilder text = new StringBuilder(state(x));
        text.append("; error ").append(x.firstError()).append("; digest ").append(x.digest());
        for (int i = 0; i < 5 && x.savedStates() > 0; i++) {
            text.append("; undo ").append(x.undo()).append(' ').append(x.digest());
        }
        text.append("; restore ").append(Check.outcome(x::restore)).append(' ').append(x.digest());
        return text.append("; buffer ").append(x.clearBuffer()).toString();
    }
}
