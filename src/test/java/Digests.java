/** The hash of the whole state, from the list of the promise 45. */
final class Digests {
    /** The digest that the answers of all other calls ask for; the text is what the buffer holds. */
    static long byItsList(MagpieRuns x, String text) {
        long hash = 4517;
        hash = 31 * hash + x.mover();
        hash = 31 * hash + x.phase();
        hash = 31 * hash + x.diceLeft();
        for (int i = 0; i < x.diceLeft(); i++) {
            hash = 31 * hash + x.dieLeft(i);
        }
        hash = 31 * hash + x.stake();
        hash = 31 * hash + x.cubeOf();
        hash = 31 * hash + x.possibleSteps();
        hash = 31 * hash + x.reach();
        hash = 31 * hash + x.plays();
        hash = 31 * hash + x.playsByOrders();
        hash = 31 * hash + x.playsWith(6, 5);
        hash = 31 * hash + x.savedStates();
        for (int player = 0; player < 2; player++) {
            hash = 31 * hash + x.onBar(player);
            hash = 31 * hash + x.borneOff(player);
            hash = 31 * hash + x.pips(player);
            hash = 31 * hash + x.blots(player);
            hash = 31 * hash + x.blockade(player);
            hash = 31 * hash + x.score(player);
            hash = 31 * hash + x.hits(player);
            hash = 31 * hash + x.entering(player);
            for (int point = 0; point < 16; point++) {
                hash = 31 * hash + x.piecesOn(player, point);
            }
        }
        for (int point = 0; point < 16; point++) {
            hash = 31 * hash + x.shots(point);
            hash = 31 * hash + x.shotsByKinds(point);
        }
        hash = 31 * hash + (x.hasStopped() ? 1 : 0);
        hash = x.hasStopped() ? 31 * hash + x.stoppedPart() : hash;
        hash = 31 * hash + Double.doubleToLongBits(x.lead());
        hash = 31 * hash + text.length();
        for (int i = 0; i < text.length(); i++) {
            hash = 31 * hash + text.charAt(i);
        }
        return hash;
    }
}
