/** Promises 10 to 15: the buffer, its syntax, and games that are played from it. */
public final class TextTest {
    private static final Check check = new Check();

    public static void main(String[] args) {
        append();
        clearBuffer();
        firstError();
        everySign();
        play();
        playStops();
        playWrong();
        playWhole();
        stops();
        check.end("TextTest");
    }

    private static void append() {
        MagpieRuns x = new MagpieRuns();
        check.is("append(33)", x.append(33), 1);
        check.is("append(126)", x.append(126), 2);
        for (int code : new int[] {32, 127, 0, -1, 59 + 256, Integer.MAX_VALUE, Integer.MIN_VALUE}) {
            check.raises("append(" + code + ")", x, Check.ARGUMENT, () -> x.append(code));
        }
        for (int length = 3; length <= 60; length++) {
            check.is("append to " + length, x.append('e'), length);
        }
        check.raises("append to a full buffer", x, Check.STATE, () -> x.append('e'));
        check.raises("append(32) to a full buffer", x, Check.ARGUMENT, () -> x.append(32));
        check.is("append is not undoable", x.savedStates(), 0);
    }

    private static void clearBuffer() {
        MagpieRuns x = new MagpieRuns();
        check.is("clearBuffer of an empty one", x.clearBuffer(), 0);
        Boards.write(x, "r12;e");
        check.is("clearBuffer", x.clearBuffer(), 5);
        check.is("clearBuffer again", x.clearBuffer(), 0);
        check.is("append behind it", x.append('x'), 1);
        check.is("clearBuffer is not undoable", x.savedStates(), 0);
        for (int i = 0; i < 59; i++) {
            x.append('x');
        }
        check.is("clearBuffer of a full one", x.clearBuffer(), 60);
    }

    private static void error(String text, int due) {
        MagpieRuns x = Boards.write(new MagpieRuns(), text);
        check.is("firstError of " + text, x.firstError(), due);
        check.is("the buffer stays", x.clearBuffer(), text.length());
    }

    private static void firstError() {
        error("", 0);
        for (String right : new String[] {"r", "r1", "r11", "r66", "r11;", "m", "m0", "m0.", "m0.1",
            "m1", "m1.", "m1.6", "m10.6", "m15.6", "m9.3", "b", "b.", "b.1", "b.6", "e", "x", "t",
            "d", "n", "e;", "e;x;t;d;n;r12;m3.4;b.5", "n;m1"}) {
            error(right, right.length());
        }
        error("a", 0);
        error(";", 0);
        error("E", 0);
        error("1", 0);
        error("r0", 1);
        error("r7", 1);
        error("r10", 2);
        error("r17", 2);
        error("r123", 3);
        error("r12r", 3);
        error("r12e", 3);
        error("r.", 1);
        error("m.", 1);
        error("m00", 2);
        error("m01.1", 2);
        error("m2x", 2);
        error("m20", 2);
        error("m16", 2);
        error("m19.1", 2);
        error("m150", 3);
        error("m1;", 2);
        error("m1.0", 3);
        error("m1.7", 3);
        error("m1.12", 4);
        error("m15.7", 4);
        error("m-1.2", 1);
        error("b1", 1);
        error("bb", 1);
        error("b.0", 2);
        error("b.7", 2);
        error("b.11", 3);
        error("ee", 1);
        error("e;;", 2);
        error("e;e,", 3);
        error("x1;e", 1);
    }

    /** Each character behind each kind of beginning. */
    private static void everySign() {
        String[] begins = {"", "r", "r3", "r34", "m", "m0", "m1", "m7", "m13", "m13.", "m13.2", "b",
            "b.", "b.2", "e", "x", "t", "d", "n", "e;"};
        String[] follow = {"bdemnrtx", "123456", "123456", ";", "0123456789", ".", ".012345", ".", ".",
            "123456", ";", ".", "123456", ";", ";", ";", ";", ";", ";", "bdemnrtx"};
        for (int i = 0; i < begins.length; i++) {
            for (char sign = 33; sign <= 126; sign++) {
                int length = begins[i].length();
                error(begins[i] + sign, follow[i].indexOf(sign) >= 0 ? length + 1 : length);
            }
        }
    }

    private static void play() {
        MagpieRuns x = new MagpieRuns();
        check.is("play", Boards.play(x, "r31;m4.3;m0.1;e"), 4);
        check.is("mover", x.mover(), 1);
        check.is("phase", x.phase(), 0);
        check.is("piecesOn(0, 7)", x.piecesOn(0, 7), 3);
        check.is("piecesOn(0, 1)", x.piecesOn(0, 1), 1);
        check.is("hasStopped", x.hasStopped(), false);
        check.is("the buffer is cleared", x.clearBuffer(), 0);
        check.is("play saves one state", x.savedStates(), 1);
        check.is("play of all kinds", Boards.play(x, "x;t;r21;m15.2;m15.1;e;x;d;n;x;d;n"), 12);
        check.is("score(0)", x.score(0), 2);
        check.is("score(1)", x.score(1), 1);
        check.is("the loser begins", x.mover(), 0);
        check.is("undo", x.undo(), 1);
        check.is("score(0) behind undo", x.score(0), 0);
        check.is("mover behind undo", x.mover(), 1);
        check.is("piecesOn(0, 7)", x.piecesOn(0, 7), 3);
        MagpieRuns y = Boards.with(Boards.at(-1, 4, 4, 7, 7, 14), Boards.at(15, 15, 11, 11, 8, 2));
        check.is("play from the bar", Boards.play(y, "r36;b.3"), 2);
        check.is("onBar(1)", y.onBar(1), 1);
        check.is("play of a step that is not possible", Boards.play(y, "m14.6"), 0);
        check.is("stop", y.stoppedPart(), 0);
        check.is("play of one that is", Boards.play(y, "m2.6"), 1);
        check.is("onBar(1)", y.onBar(1), 2);
    }

    private static void playStops() {
        MagpieRuns x = new MagpieRuns();
        int[][] dueOf = {{0, 0}, {1, 1}, {2, 2}, {1, 1}, {2, 2}, {0, 0}, {0, 0}, {0, 0}};
        String[] texts = {"e;r12", "x;x;t", "x;t;x", "r12;r34;e", "r12;m0.1;m0.1", "t", "d;x", "n"};
        for (int i = 0; i < texts.length; i++) {
            MagpieRuns y = new MagpieRuns();
            check.is("play of " + texts[i], Boards.play(y, texts[i]), dueOf[i][0]);
            check.is("stop of " + texts[i], y.stoppedPart(), dueOf[i][1]);
            check.is("hasStopped of " + texts[i], y.hasStopped(), true);
            check.is("a state is saved", y.savedStates(), 1);
            check.is("the buffer is cleared", y.clearBuffer(), 0);
        }
        check.is("parts ahead of the stop are done", Boards.play(x, "x;t;r11;x;e"), 3);
        check.is("stake", x.stake(), 2);
        check.is("diceLeft", x.diceLeft(), 4);
        check.is("phase", x.phase(), 1);
        check.is("stoppedPart", x.stoppedPart(), 3);
    }

    private static void playWrong() {
        String[] texts = {"", "e;", "r1", "r", "m1", "m15", "m15.", "b", "b.", "a", "r12;", ";e", "r12x",
            "x;t;y", "m16.1", "r12;;e"};
        for (String text : texts) {
            MagpieRuns x = Boards.write(new MagpieRuns(), text);
            check.raises("play of " + text, x, Check.ARGUMENT, x::play);
            check.is("the buffer stays", x.clearBuffer(), text.length());
            check.is("no stop", x.hasStopped(), false);
        }
    }

    private static void playWhole() {
        MagpieRuns x = new MagpieRuns();
        StringBuilder text = new StringBuilder();
        for (int i = 0; i < 10; i++) {
            text.append(i == 0 ? "" : ";").append("x;d;n");
        }
        check.is("a text of 59", text.length(), 59);
        check.is("play of 30 parts", Boards.play(x, text.toString()), 30);
        check.is("score(0)", x.score(0), 5);
        check.is("score(1)", x.score(1), 5);
        check.is("play of a text of 60", Boards.play(x, text.substring(0, 54) + "m1.2;e"), 27);
        check.is("its stop", x.stoppedPart(), 27);
    }

    private static void stops() {
        MagpieRuns x = new MagpieRuns();
        check.is("hasStopped without play", x.hasStopped(), false);
        check.raises("stoppedPart without play", x, Check.STATE, x::stoppedPart);
        Boards.play(x, "x;t;e;e");
        check.is("hasStopped", x.hasStopped(), true);
        check.is("stoppedPart", x.stoppedPart(), 2);
        Boards.write(x, "e;");
        check.raises("play that throws", x, Check.ARGUMENT, x::play);
        check.is("the stop stays", x.stoppedPart(), 2);
        x.roll(2, 1);
        check.is("the stop stays behind other calls", x.stoppedPart(), 2);
        Boards.play(x, "m0.2");
        check.is("no stop behind the next play", x.hasStopped(), false);
        check.raises("stoppedPart without a stop", x, Check.STATE, x::stoppedPart);
        x.undo();
        check.is("undo brings the stop back", x.stoppedPart(), 2);
        x.undo();
        x.undo();
        check.is("undo takes the stop back", x.hasStopped(), false);
    }
}
