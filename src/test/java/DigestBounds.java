/** The sentences on the lead and the digest: promises 44 and 45. */
final class DigestBounds {
    private static final int BAR = Boards.BAR;
    private static final int OFF = Boards.OFF;

    private final Sentences doc;
    private final Check check;

    DigestBounds(Sentences sentences) {
        doc = sentences;
        check = sentences.check;
    }

    void all() {
        doc.says("Promise 44", "Returns how far the mover is.", this::leadOfMover);
        doc.says("Promise 44", "the pips of the other player, as a double, divided by those of both", this::shares);
        doc.says("Promise 44", "0.5 if these are 0", this::noPips);
        doc.says("Promise 45", "Computes a hash of the whole state.", this::wholeState);
        doc.says("Promise 45", "The hash starts at 4517.", this::byHand);
        doc.says("Promise 45", "the hash becomes 31 * hash + v, in long arithmetic with overflow", this::byHand);
        doc.says("Promise 45", "(A boolean is 1 for true, 0 for false.)", this::stopped);
        doc.says("Promise 45", "diceLeft, each dieLeft", this::eachDieLeft);
        doc.says("Promise 45", "and, if that is true, stoppedPart", this::stopped);
        doc.says("Promise 45", "the bits of lead (as Double.doubleToLongBits)", this::bitsOfLead);
        doc.says("Promise 45", "the length of the buffer and each of its character codes", this::buffers);
        doc.says("Promise 45", "Returns the hash.", this::everyMoment);
    }

    private void leadOfMover() {
        for (Side side : Side.BOTH) {
            MagpieRuns ahead = side.board(Boards.at(15, OFF, OFF, OFF, OFF, OFF), Boards.at(8, 8, 8, 8, 8, 8));
            check.is(side + "lead of a mover who is ahead", ahead.lead(), 54.0 / 55.0);
            MagpieRuns behind = side.board(Boards.at(BAR, BAR, BAR, BAR, BAR, BAR), Boards.at(0, OFF, OFF, OFF, OFF, OFF));
            check.is(side + "the least lead", behind.lead(), 1.0 / 103.0);
        }
        MagpieRuns x = new MagpieRuns();
        x.roll(2, 1);
        x.step(0, 2);
        check.is("lead behind a step", x.lead(), 74.0 / 146.0);
        x.step(0, 1);
        x.endTurn();
        check.is("lead of the other one", x.lead(), 71.0 / 145.0);
    }

    private void shares() {
        check.is("lead at the beginning", new MagpieRuns().lead(), 0.5);
        for (int place = BAR; place <= 15; place++) {
            if (place != 15 && place != 11 && place != 8) {
                MagpieRuns x = new MagpieRuns();
                int pips = x.carry(0, 0, place);
                check.is("lead with a piece on " + place, x.lead(), 74.0 / (74.0 + pips));
            }
        }
        check.is("lead with one of the mover off", oneOff().lead(), 74.0 / 132.0);
        check.is("lead with all of the mover off", Moment.WON.made().lead(), 1.0);
    }

    private static MagpieRuns oneOff() {
        MagpieRuns x = new MagpieRuns();
        x.carry(0, 0, OFF);
        return x;
    }

    /** Both are never off at once, so that 0 pips of both are not reached: these are the nearest. */
    private void noPips() {
        for (Side side : Side.BOTH) {
            int[] last = {15, OFF, OFF, OFF, OFF, OFF};
            int[] theirLast = {0, OFF, OFF, OFF, OFF, OFF};
            MagpieRuns x = side.rolled(last, theirLast, 1, 1);
            check.is(side + "lead with a pip of each", x.lead(), 0.5);
            side.step(x, 15, 1);
            check.is(side + "lead with a pip of the other one", x.lead(), 1.0);
            check.is(side + "the pips of both", x.pips(0) + x.pips(1), 1);
            MagpieRuns y = side.board(last, theirLast);
            check.raises(side + "carry of the last off", y, Check.STATE, () -> y.carry(side.me, side.at(15), OFF));
            check.raises(side + "carry of the other's last off", y, Check.STATE,
                    () -> y.carry(side.other, side.at(0), OFF));
        }
    }

    private void same(String what, MagpieRuns x, String buffer) {
        check.is("digest " + what, x.digest(), Digests.byItsList(x, buffer));
    }

    private void wholeState() {
        MagpieRuns x = new MagpieRuns();
        long first = x.digest();
        check.is("digest again", x.digest(), first);
        check.is("digest changes nothing", Whole.everything(x), Whole.everything(new MagpieRuns()));
        check.is("digest of another new object", new MagpieRuns().digest(), first);
        MagpieRuns kept = new MagpieRuns();
        kept.keep();
        check.is("the snapshot is not in it", kept.digest(), first);
        MagpieRuns moved = new MagpieRuns();
        moved.carry(0, 0, 1);
        moved.carry(0, 1, 0);
        MagpieRuns still = new MagpieRuns();
        still.carry(0, 4, 4);
        still.carry(1, 8, 8);
        check.is("what the saved states hold is not in it", moved.digest(), still.digest());
        check.is("their number is in it", moved.digest() == first, false);
    }

    /** A new object's values, one by one, as the document gives them. */
    private void byHand() {
        long[] values = new long[200];
        int count = 0;
        for (long value : new long[] {0, 0, 0, 1, -1, 0, 0, 1, 1, 9, 0}) {
            values[count++] = value;
        }
        int[] begin = {2, 0, 0, 0, 2, 0, 0, 2, 0, 0, 0, 0, 0, 0, 0, 0};
        for (int player = 0; player < 2; player++) {
            for (long value : new long[] {0, 0, 74, 0, 1, 0, 0, 36}) {
                values[count++] = value;
            }
            for (int point = 0; point < 16; point++) {
                values[count++] = begin[player == 0 ? point : 15 - point];
            }
        }
        count += 32;
        values[count++] = 0;
        values[count++] = 0x3fe0000000000000L;
        values[count++] = 0;
        long hash = 4517;
        for (int i = 0; i < count; i++) {
            hash = 31 * hash + values[i];
        }
        check.is("values of a new object", count, 11 + 2 * 24 + 32 + 3);
        check.is("digest of a new object", new MagpieRuns().digest(), hash);
    }

    private void stopped() {
        same("without a stop", new MagpieRuns(), "");
        String[] texts = {"e", "x;e", "x;d;e", "x;d;n;e"};
        for (int stop = 0; stop < texts.length; stop++) {
            MagpieRuns x = new MagpieRuns();
            Boards.play(x, texts[stop]);
            check.is("stoppedPart", x.stoppedPart(), stop);
            same("with a stop", x, "");
        }
        MagpieRuns whole = new MagpieRuns();
        Boards.play(whole, "x;d;n");
        same("behind a whole game", whole, "");
        MagpieRuns first = new MagpieRuns();
        Boards.play(first, "e");
        MagpieRuns none = new MagpieRuns();
        none.carry(0, 0, 0);
        check.is("a stop at 0 is another hash than no stop", first.digest() == none.digest(), false);
    }

    private void eachDieLeft() {
        MagpieRuns x = Boards.with(Boards.at(0, 0, 0, 0, 0, 0), Boards.at(15, 15, 14, 14, 13, 13));
        same("without dice", x, "");
        x.roll(2, 2);
        for (int left = 4; left > 0; left--) {
            check.is("diceLeft", x.diceLeft(), left);
            same("with dice", x, "");
            x.step(0, 2);
        }
        same("with all dice used", x, "");
        MagpieRuns y = new MagpieRuns();
        y.roll(2, 1);
        same("with two dice", y, "");
        long hash = y.digest();
        y.undo();
        y.roll(1, 2);
        same("with two dice the other way round", y, "");
        check.is("the order is in it", y.digest() == hash, false);
    }

    private void bitsOfLead() {
        for (Side side : Side.BOTH) {
            for (int place = 0; place <= 15; place++) {
                MagpieRuns x = side.board(Boards.at(place, OFF, OFF, OFF, OFF, OFF), Boards.at(BAR, BAR, OFF, OFF, OFF, OFF));
                same("of a lead above a half", x, "");
                MagpieRuns y = side.board(Boards.at(BAR, BAR, BAR, BAR, BAR, BAR), Boards.at(place, OFF, OFF, OFF, OFF, OFF));
                same("of a lead below a half", y, "");
            }
        }
        same("of a lead of 1", Moment.WON.made(), "r12;m16");
    }

    private void buffers() {
        for (int length : new int[] {0, 1, 2, 59, 60}) {
            for (char sign : new char[] {33, 'e', 126}) {
                String text = ("" + sign).repeat(length);
                same("with " + length + " characters", Boards.write(new MagpieRuns(), text), text);
            }
        }
        String mixed = "!~r12;m15.3";
        same("with a text", Boards.write(new MagpieRuns(), mixed), mixed);
        MagpieRuns x = Boards.write(new MagpieRuns(), mixed);
        x.clearBuffer();
        same("with a cleared buffer", x, "");
        check.is("the cleared text is not in it", x.digest(), new MagpieRuns().digest());
    }

    private void everyMoment() {
        for (Moment moment : Moment.values()) {
            same("of " + moment, moment.made(), "r12;m16");
        }
        for (Side side : Side.BOTH) {
            MagpieRuns x = side.rolled(Boards.at(BAR, 0, 3, 5, 12, OFF), Boards.at(2, 6, 6, 8, 9, OFF), 3, 2);
            same("of pieces everywhere", x, "");
            x.step(BAR, 3);
            same("behind a hit", x, "");
        }
    }
}
