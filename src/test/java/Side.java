/**
 * A side from which a board is seen: it is written down for the player 0 as the mover, and made for
 * either player, the points then told from the other end.
 */
final class Side {
    static final Side[] BOTH = {new Side(0), new Side(1)};
    static final int[] START_MINE = {0, 0, 4, 4, 7, 7};
    static final int[] START_THEIRS = {15, 15, 11, 11, 8, 8};

    final int me;
    final int other;

    private Side(int mover) {
        me = mover;
        other = 1 - mover;
    }

    int at(int place) {
        return me == 0 || place < 0 || place > 15 ? place : 15 - place;
    }

    private int[] at(int[] places) {
        int[] seen = places.clone();
        for (int i = 0; i < seen.length; i++) {
            seen[i] = at(places[i]);
        }
        return seen;
    }

    /** A new object ahead of a roll, with the pieces of the mover and of the other player. */
    MagpieRuns board(int[] mine, int[] theirs) {
        if (me == 0) {
            return Boards.with(mine, theirs);
        }
        MagpieRuns x = new MagpieRuns();
        x.offer();
        x.drop();
        x.newGame();
        return Boards.fill(x, at(theirs), at(mine));
    }

    MagpieRuns rolled(int[] mine, int[] theirs, int first, int second) {
        MagpieRuns x = board(mine, theirs);
        x.roll(first, second);
        return x;
    }

    int mineOn(MagpieRuns x, int point) {
        return x.piecesOn(me, at(point));
    }

    int theirsOn(MagpieRuns x, int point) {
        return x.piecesOn(other, at(point));
    }

    boolean step(MagpieRuns x, int from, int die) {
        return x.step(at(from), die);
    }

    int why(MagpieRuns x, int from, int die) {
        return x.whyNoStep(at(from), die);
    }

    @Override
    public String toString() {
        return "player " + me + ", ";
    }
}
