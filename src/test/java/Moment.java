import java.util.EnumSet;
import java.util.Set;

/** The moments of a turn and of a game; the player 0 is the mover in all of them. */
enum Moment {
    AHEAD_OF_A_ROLL, BEHIND_A_ROLL, ALL_DICE_USED, NO_STEP_POSSIBLE, DOUBLE_OFFERED, DROPPED, WON;

    static Set<Moment> allBut(Moment first, Moment... others) {
        return EnumSet.complementOf(EnumSet.of(first, others));
    }

    /** A new object that has come to this moment, with a past: of all there is something to lose. */
    MagpieRuns made() {
        MagpieRuns x = lived();
        switch (this) {
            case AHEAD_OF_A_ROLL -> { }
            case BEHIND_A_ROLL -> x.roll(2, 1);
            case ALL_DICE_USED -> {
                x.roll(2, 1);
                x.step(0, 2);
                x.step(0, 1);
            }
            case NO_STEP_POSSIBLE -> noStep(x);
            case DOUBLE_OFFERED -> x.offer();
            case DROPPED -> {
                x.offer();
                x.drop();
            }
            case WON -> win(x);
        }
        return x;
    }

    /** A snapshot, saved states, scores, a stop, and a buffer that is no game, all of them unlike. */
    private static MagpieRuns lived() {
        MagpieRuns x = new MagpieRuns();
        Boards.play(x, "x;d;n;x;d;n;e");
        x.keep();
        x.carry(1, 8, 9);
        return Boards.write(x, "r12;m16");
    }

    private static void noStep(MagpieRuns x) {
        x.carry(0, 0, -1);
        x.carry(0, 0, -1);
        x.carry(1, 15, 0);
        x.carry(1, 15, 0);
        x.carry(1, 11, 1);
        x.carry(1, 11, 1);
        x.roll(2, 1);
    }

    private static void win(MagpieRuns x) {
        x.carry(1, 15, 3);
        x.carry(1, 15, 3);
        for (int from : new int[] {0, 0, 4, 4, 7}) {
            x.carry(0, from, 16);
        }
        x.carry(0, 7, 15);
        x.roll(2, 1);
        x.step(15, 2);
    }
}
