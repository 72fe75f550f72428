/** Puts objects into states that tests begin with. */
final class Boards {
    static final int BAR = -1;
    static final int OFF = 16;

    /** A new object with the six pieces of each player at these places. */
    static MagpieRuns with(int[] places0, int[] places1) {
        return fill(new MagpieRuns(), places0, places1);
    }

    /** Carries the pieces of a game at its beginning to these places. */
    static MagpieRuns fill(MagpieRuns x, int[] places0, int[] places1) {
        int[] begin0 = {0, 0, 4, 4, 7, 7};
        int[] begin1 = {15, 15, 11, 11, 8, 8};
        for (int i = 0; i < 6; i++) {
            x.carry(0, begin0[i], BAR);
            x.carry(1, begin1[i], BAR);
        }
        for (int i = 0; i < 6; i++) {
            x.carry(0, BAR, places0[i]);
            x.carry(1, BAR, places1[i]);
        }
        return x;
    }

    static int[] at(int... places) {
        return places;
    }

    /** Writes a text into the buffer. */
    static MagpieRuns write(MagpieRuns x, String text) {
        for (int i = 0; i < text.length(); i++) {
            x.append(text.charAt(i));
        }
        return x;
    }

    /** Writes a text into an empty buffer and plays it. */
    static int play(MagpieRuns x, String text) {
        x.clearBuffer();
        return write(x, text).play();
    }

    /** Rolls, makes steps as long as there are some, and ends the turn. */
    static void passTurn(MagpieRuns x) {
        x.roll(2, 1);
        while (x.possibleSteps() > 0) {
            stepAnywhere(x);
        }
        x.endTurn();
    }

    private static void stepAnywhere(MagpieRuns x) {
        for (int from = -1; from < 16; from++) {
            for (int die = 1; die <= 2; die++) {
                if (x.whyNoStep(from, die) == 0) {
                    x.step(from, die);
                    return;
                }
            }
        }
    }
}
