/** Puts objects into states that tests begin with. */
final class Boards {
    static final int BAR = -1;
    static final int OFF = 16;

    /** A new object with the six pieces of each player at these places. */
    static MagpieRuns with(int[] places0, int[] places1) {
        MagpieRuns x = new MagpieRuns();
        int[] begin0 = {0, 0, 4, 4, 7, 7};
        int[] begin1 = {15, 15, 11, 11, 8, 8};
        for (int i = 0; i < 6; i++) {
            x.carry(0, begin0[i], BAR);
            x.carry(1, begin1[i], BAR);
        }
        for (int i = 0; i < 6; i++) {
            x.carry(0, BAR, places0[i]);
            x.carry(1, BAR, places1[i]);
        }
        return x;
    }

    static int[] at(int... places) {
        return places;
    }

    /** Writes a text into the buffer. */
    static MagpieRuns write(MagpieRuns x, String text) {
        for (int i = 0; i < text.length(); i++) {
            x.append(text.charAt(i));
        }
        return x;
    }

    /** Writes a text into an empty buffer and plays it. */
    static int play(MagpieRuns x, String text) {
        x.clearBuffer();
        return write(x, text).play();
    }
}
