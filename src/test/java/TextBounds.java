import java.util.Set;

/** The sentences on input texts, and the promises 10 to 15. */
final class TextBounds {
    private static final int MOST = 60;

    private final Sentences doc;
    private final Check check;

    TextBounds(Sentences sentences) {
        doc = sentences;
        check = sentences.check;
    }

    void all() {
        syntax();
        buffer();
        plays();
        stops();
    }

    private void syntax() {
        doc.says("Input text", "The buffer has at most 60 characters.", this::atMost60);
        doc.says("Input text", "A game as a text is one or more parts with \";\" between them", this::parts);
        doc.says("Input text", "\"r\" and two dice, 1 to 6 (a roll)", this::rollAsText);
        doc.says("Input text", "\"m\", a point, 0 to 15, \".\", and a die (a step)", this::stepAsText);
        doc.says("Input text", "\"b.\" and a die (a step from the bar)", this::barAsText);
        doc.says("Input text", "\"e\" (the turn ends)", () -> letter("e"));
        doc.says("Input text", "\"x\" (a double is offered)", () -> letter("x"));
        doc.says("Input text", "\"t\" (it is taken)", () -> letter("t"));
        doc.says("Input text", "\"d\" (it is dropped)", () -> letter("d"));
        doc.says("Input text", "or \"n\" (a new game)", () -> letter("n"));
        doc.says("Input text", "Numbers have no leading zeros.", this::leadingZeros);
        doc.says("Input text", "The buffer is read from left to right", this::firstOfErrors);
        doc.says("Input text", "no game as a text, of any length, begins with the characters before it", this::anyLength);
    }

    private void buffer() {
        doc.says("Promise 10", "Appends a character to the buffer.", this::appends);
        doc.says("Promise 10", "`code`: the character code, 33 to 126", this::codes);
        doc.says("Promise 10", "Returns the new length of the buffer.", this::lengths);
        doc.says("Promise 10", "if code is not 33 to 126", this::noCodes);
        doc.says("Promise 10", "if the buffer has 60 characters", this::full);
        doc.says("Promise 11", "Clears the buffer.", this::clears);
        doc.says("Promise 11", "Returns the length that it had.", this::clearedLengths);
        doc.says("Promise 12", "Finds the first syntax error of the buffer.", this::firstOfErrors);
        doc.says("Promise 12", "Returns the index of the first character that is a syntax error", this::indices);
        doc.says("Promise 12", "the length of the buffer if there is none", this::noError);
    }

    private void plays() {
        doc.says("Promise 13", "Does what the buffer tells, part by part", this::eachKind);
        doc.says("Promise 13", "up to the first part for which the method would throw an exception", this::upToFirst);
        doc.says("Promise 13", "and clears the buffer", this::clearedByPlay);
        doc.says("Promise 13", "Undoable, as one call, also if nothing is done.", this::playIsUndoable);
        doc.says("Promise 13", "Returns how many parts are done.", this::partsDone);
        doc.says("Promise 13", "if the buffer is not a complete game as a text (the buffer stays)", this::notComplete);
    }

    private void stops() {
        doc.says("Promise 14", "the latest call of play() that did not throw an exception", this::latestPlay);
        doc.says("Promise 14", "stopped ahead of the end of its text", this::aheadOfEnd);
        doc.says("Promise 14", "false without such a call", this::withoutPlay);
        doc.says("Promise 15", "Returns the number of the part at which the latest call of play() stopped.", this::stopOfLatest);
        doc.says("Promise 15", "Returns the number, from 0.", this::stopNumbers);
        doc.says("Promise 15", "if it did not stop", this::noStop);
    }

    private static MagpieRuns written(String text) {
        return Boards.write(new MagpieRuns(), text);
    }

    private static String filled(int length, String end) {
        return "e;".repeat(MOST).substring(0, length - end.length()) + end;
    }

    /** The first error of a text; none of it is at the end of the text. */
    private void error(String text, int due) {
        check.is("firstError of " + text, written(text).firstError(), due);
        if (due < text.length()) {
            check.refused("play of " + text, () -> written(text), Check.ARGUMENT, MagpieRuns::play);
        }
    }

    /** A text that is a game, so that it is played, or that only goes on to one. */
    private void begins(String text, boolean complete) {
        check.is("firstError of " + text, written(text).firstError(), text.length());
        if (complete) {
            check.answers("play of " + text, written(text), MagpieRuns::play);
        } else {
            check.refused("play of " + text, () -> written(text), Check.ARGUMENT, MagpieRuns::play);
        }
    }

    private void atMost60() {
        MagpieRuns x = written(filled(59, "e"));
        check.is("append of the last", x.append(';'), 60);
        check.refused("append to 60", () -> written(filled(60, ";")), Check.STATE, y -> y.append('e'));
        check.is("clearBuffer", x.clearBuffer(), 60);
        check.is("append to an empty one", x.append('e'), 1);
        Boards.play(x, filled(59, "e"));
        Boards.write(x, filled(59, "e"));
        check.is("append of the last behind play", x.append(';'), 60);
        check.raises("append to 60 behind play", x, Check.STATE, () -> x.append('e'));
    }

    private void parts() {
        begins("", false);
        begins("e", true);
        begins("e;", false);
        begins("e;e", true);
        begins("r12;m0.1;m15.2;b.6;e;x;t;d;n", true);
        error(";", 0);
        error(";e", 0);
        error("e;;e", 2);
        error("ee", 1);
        error("e,e", 1);
        error("e:", 1);
        error("e<", 1);
        begins(filled(59, "e"), true);
        begins(filled(60, ";"), false);
    }

    private void rollAsText() {
        begins("r", false);
        for (char sign = '/'; sign <= ':'; sign++) {
            boolean die = sign >= '1' && sign <= '6';
            if (die) {
                begins("r" + sign, false);
                begins("r3" + sign, true);
                begins("r" + sign + sign, true);
            } else {
                error("r" + sign, 1);
                error("r3" + sign, 2);
            }
        }
        error("r121", 3);
        error("r1.2", 2);
        error("R12", 0);
        error("q12", 0);
        error("s12", 0);
        begins("r12;", false);
    }

    private void stepAsText() {
        begins("m", false);
        for (int point = 0; point <= 15; point++) {
            begins("m" + point, false);
            begins("m" + point + ".", false);
            for (int die = 1; die <= 6; die++) {
                begins("m" + point + "." + die, true);
            }
            int dot = ("m" + point).length();
            error("m" + point + ".0", dot + 1);
            error("m" + point + ".7", dot + 1);
            error("m" + point + ";", dot);
            error("m" + point + ".11", dot + 2);
        }
        for (int point = 16; point <= 21; point++) {
            error("m" + point + ".1", 2);
        }
        for (char sign : new char[] {'/', ':', '.', '-', 'e'}) {
            error("m" + sign, 1);
            error("m0" + sign + "1" + sign, sign == '.' ? 4 : 2);
            error("m1" + sign + "1" + sign, sign == '.' ? 4 : 2);
            error("m15" + sign + "1" + sign, sign == '.' ? 5 : 3);
        }
        error("m.1", 1);
        error("m-1.1", 1);
        error("m99.1", 2);
        error("m100.1", 3);
        error("m150.1", 3);
        error("l1.1", 0);
        error("M1.1", 0);
    }

    private void barAsText() {
        begins("b", false);
        begins("b.", false);
        for (char sign = '/'; sign <= ':'; sign++) {
            if (sign >= '1' && sign <= '6') {
                begins("b." + sign, true);
            } else {
                error("b." + sign, 2);
            }
            error("b" + sign, 1);
        }
        error("b.11", 3);
        error("b-1", 1);
        error("B.1", 0);
        error("a.1", 0);
        error("c.1", 0);
    }

    /** Only this letter is a part: with a second one, a number or in capitals it is none. */
    private void letter(String letter) {
        begins(letter, true);
        begins(letter + ";", false);
        begins("e;" + letter, true);
        error(letter + letter, 1);
        error(letter + "1", 1);
        error(letter + ".", 1);
        error(letter.toUpperCase(), 0);
        for (char sign = '!'; sign <= '~'; sign++) {
            if ("rmbextdn".indexOf(sign) < 0) {
                error("" + sign, 0);
            }
        }
    }

    private void leadingZeros() {
        begins("m0.1", true);
        begins("m10.1", true);
        begins("m1.1", true);
        for (int digit = 0; digit <= 9; digit++) {
            error("m0" + digit + ".1", 2);
        }
        error("m010.1", 2);
        error("m1.01", 3);
        error("r01", 1);
        error("r10", 2);
        error("r012", 1);
        error("b.01", 2);
    }

    private void firstOfErrors() {
        error("z", 0);
        error("zz;r9", 0);
        error("e;z;r9", 2);
        error("e;r9;z", 3);
        error("r12;m16.9", 6);
        error(filled(60, "?"), 59);
        error(filled(60, "?e"), 58);
        error("?" + filled(59, "e"), 0);
    }

    private void anyLength() {
        begins(filled(60, ";"), false);
        begins(filled(60, "r6"), false);
        begins(filled(60, ";b."), false);
        begins(filled(60, "m1"), false);
        begins(filled(60, ";m1"), false);
        begins(filled(60, "m15."), false);
        begins(filled(60, "m1.1"), true);
        error(filled(60, "r7"), 59);
        error(filled(60, "m16."), 58);
    }

    private void appends() {
        MagpieRuns x = new MagpieRuns();
        for (char sign : "r12".toCharArray()) {
            x.append(sign);
        }
        check.is("firstError of what was appended", x.firstError(), 3);
        x.append('?');
        check.is("firstError with one more", x.firstError(), 3);
        check.is("the length", x.clearBuffer(), 4);
        check.is("no state is saved", x.savedStates(), 0);
        check.is("the state is as it was", Whole.state(x), Whole.state(new MagpieRuns()));
    }

    private void codes() {
        for (int code = 33; code <= 126; code++) {
            MagpieRuns x = new MagpieRuns();
            check.is("append(" + code + ")", x.append(code), 1);
            check.is("the code is in the buffer", x.digest(), Digests.byItsList(x, "" + (char) code));
        }
        for (int code : new int[] {32, 127}) {
            check.refused("append(" + code + ")", MagpieRuns::new, Check.ARGUMENT, x -> x.append(code));
        }
    }

    private void lengths() {
        MagpieRuns x = new MagpieRuns();
        for (int length = 1; length <= MOST; length++) {
            check.is("append", x.append('~'), length);
        }
    }

    /** In each moment, and of a full buffer too: the argument is looked at ahead of the state. */
    private void noCodes() {
        for (int code : new int[] {32, 127, 0, -1, 128, 33 + 65536, 33 - 256, Integer.MIN_VALUE, Integer.MAX_VALUE}) {
            for (Moment moment : Moment.values()) {
                check.refused("append(" + code + ") " + moment, moment::made, Check.ARGUMENT, x -> x.append(code));
            }
            check.refused("append(" + code + ") to 59", () -> written(filled(59, "e")), Check.ARGUMENT, x -> x.append(code));
            check.refused("append(" + code + ") to 60", () -> written(filled(60, ";")), Check.ARGUMENT, x -> x.append(code));
        }
    }

    private void full() {
        for (int code : new int[] {33, 126}) {
            check.answers("append(" + code + ") to 58", written(filled(58, ";")), x -> x.append(code));
            check.answers("append(" + code + ") to 59", written(filled(59, "e")), x -> x.append(code));
            check.refused("append(" + code + ") to 60", () -> written(filled(60, ";")), Check.STATE, x -> x.append(code));
        }
    }

    private void clears() {
        for (int length : new int[] {0, 1, 59, 60}) {
            MagpieRuns x = written(filled(length, ""));
            x.clearBuffer();
            check.is("firstError of a cleared buffer", x.firstError(), 0);
            check.is("clearBuffer of a cleared buffer", x.clearBuffer(), 0);
            check.is("all is as on a new object", Whole.everything(x), Whole.everything(new MagpieRuns()));
        }
    }

    private void clearedLengths() {
        for (int length = 0; length <= MOST; length++) {
            check.is("clearBuffer", written(filled(length, "")).clearBuffer(), length);
        }
    }

    private void indices() {
        for (int length = 2; length <= MOST; length += 2) {
            check.is("an error as the last of " + length, written(filled(length, "?")).firstError(), length - 1);
            check.is("an error behind so many", written(filled(length, "") + (length < MOST ? "?" : "")).firstError(), length);
        }
        check.is("an error as the first", written("?").firstError(), 0);
        check.is("an error as the second", written("e?").firstError(), 1);
        check.is("an error as the last of 60", written(filled(60, "?")).firstError(), 59);
        MagpieRuns x = written("e?;;");
        check.is("firstError changes nothing", x.firstError() * 10 + x.firstError(), 11);
        check.is("the buffer stays", x.clearBuffer(), 4);
    }

    private void noError() {
        for (int length = 0; length <= MOST; length++) {
            check.is("firstError of " + length + " characters", written(filled(length, "")).firstError(), length);
        }
        check.is("firstError of half a roll", written("r1").firstError(), 2);
        check.is("firstError of half a point", written("m1").firstError(), 2);
    }

    private void eachKind() {
        MagpieRuns x = new MagpieRuns();
        check.is("a roll", Boards.play(x, "r21"), 1);
        check.is("dice", x.dieLeft(0) * 10 + x.dieLeft(1), 21);
        check.is("a step", Boards.play(x, "m0.2"), 1);
        check.is("from", x.piecesOn(0, 0), 1);
        check.is("to", x.piecesOn(0, 2), 1);
        check.is("a step and the end of the turn", Boards.play(x, "m2.1;e"), 2);
        check.is("mover", x.mover(), 1);
        check.is("a step from 15", Boards.play(x, "r12;m15.1;m14.2;e"), 4);
        check.is("to", x.piecesOn(1, 12), 1);
        check.is("a double, offered and taken", Boards.play(x, "x;t"), 2);
        check.is("stake and cube", x.stake() * 10 + x.cubeOf(), 21);
        MagpieRuns y = new MagpieRuns();
        check.is("offered", Boards.play(y, "x"), 1);
        check.is("phase", y.phase(), 2);
        check.is("dropped", Boards.play(y, "d"), 1);
        check.is("score(0)", y.score(0), 1);
        check.is("a new game", Boards.play(y, "n"), 1);
        check.is("mover", y.mover(), 1);
        for (int die = 1; die <= 6; die++) {
            MagpieRuns bar = Boards.with(Boards.at(-1, 4, 4, 7, 7, 7), Boards.at(15, 15, 11, 11, 8, 8));
            check.is("from the bar by " + die, Boards.play(bar, "r" + die + die + ";b." + die), 2);
            check.is("onBar", bar.onBar(0), 0);
            check.is("the turn goes on", bar.mover() * 10 + bar.phase(), 1);
            check.is("dice left", bar.diceLeft(), 3);
            check.is("entered", bar.piecesOn(0, die - 1) > (die == 5 ? 2 : 0), true);
        }
        for (int point = 0; point <= 15; point++) {
            MagpieRuns at = Boards.with(Boards.at(point, 16, 16, 16, 16, 16), Boards.at(-1, -1, -1, -1, -1, -1));
            check.is("from " + point, Boards.play(at, "r66;m" + point + ".6"), point < 10 || point > 11 ? 2 : 1);
            check.is("piecesOn(0, " + point + ")", at.piecesOn(0, point), point < 10 || point > 11 ? 0 : 1);
        }
    }

    /** Each kind of part as the first that is refused, with the parts ahead of it done. */
    private void upToFirst() {
        String[] refused = {"r12", "m0.3", "b.1", "e", "x", "t", "d", "n"};
        for (int i = 0; i < refused.length; i++) {
            MagpieRuns x = new MagpieRuns();
            check.is("play", Boards.play(x, "r21;" + refused[i] + ";m0.2"), 1);
            check.is("hasStopped", x.hasStopped(), true);
            check.is("stoppedPart", x.stoppedPart(), 1);
            check.is("the parts ahead are done", x.diceLeft(), 2);
            check.is("the part behind is not done", x.piecesOn(0, 0), 2);
            MagpieRuns first = new MagpieRuns();
            String none = refused[i].equals("x") ? "t" : refused[i].equals("r12") ? "e" : refused[i];
            check.is("play of " + none, Boards.play(first, none + ";r21"), 0);
            check.is("nothing is done", first.phase(), 0);
        }
        MagpieRuns reason = Boards.with(Boards.at(0, 13, 15, 15, 15, 15), Boards.at(1, 1, 3, 3, 5, 5));
        check.is("a step of reason 6", Boards.play(reason, "r21;m13.2"), 1);
        check.is("the next step that is possible", Boards.play(reason, "m13.1;m0.2;e;m1.1"), 3);
        MagpieRuns last = new MagpieRuns();
        check.is("only the last part is refused", Boards.play(last, "x;t;r21;m0.2;m0.1;e;t"), 6);
        check.is("none is refused", Boards.play(last, "x;t;r21;m15.2;m15.1;e"), 6);
    }

    private void clearedByPlay() {
        for (String text : new String[] {"r21", "r21;e", "e", "r21;r21;r21"}) {
            MagpieRuns x = new MagpieRuns();
            Boards.play(x, text);
            check.is("the buffer behind play of " + text, x.clearBuffer(), 0);
            check.is("firstError", x.firstError(), 0);
            check.is("append", x.append('e'), 1);
        }
    }

    private void playIsUndoable() {
        for (String text : new String[] {"r21", "x;t;r21;m0.2;m0.1;e", "r21;e", "e"}) {
            MagpieRuns x = written(text);
            x.play();
            check.is("play of " + text + " saves one state", x.savedStates(), 1);
            check.is("undo", x.undo(), 0);
            check.is("all is as before, but the buffer", Whole.everything(x), Whole.everything(new MagpieRuns()));
        }
        MagpieRuns x = new MagpieRuns();
        for (int calls = 1; calls <= 6; calls++) {
            Boards.play(x, "e");
            check.is("savedStates", x.savedStates(), Math.min(5, calls));
        }
    }

    private void partsDone() {
        String games = "x;d;n".concat(";x;d;n".repeat(9));
        for (int parts = 1; parts <= 30; parts++) {
            MagpieRuns x = new MagpieRuns();
            check.is("play of " + parts, Boards.play(x, games.substring(0, 2 * parts - 1)), parts);
            check.is("hasStopped", x.hasStopped(), false);
            check.is("wins", x.score(0) + x.score(1), (parts + 1) / 3);
            if (parts < 30) {
                MagpieRuns y = new MagpieRuns();
                check.is("play with a stop at " + parts, Boards.play(y, games.substring(0, 2 * parts - 1) + ";e"), parts);
                check.is("stoppedPart", y.stoppedPart(), parts);
            }
        }
        check.is("play of nothing", Boards.play(new MagpieRuns(), "e"), 0);
    }

    private void notComplete() {
        String[] texts = {"", "r", "r1", "m", "m0", "m1", "m15", "m15.", "b", "b.", "e;", "z", "e;z", "r12;", "r123", "ee"};
        for (String text : texts) {
            for (Moment moment : Moment.values()) {
                check.refused("play of " + text + " " + moment, () -> rewritten(moment, text), Check.ARGUMENT, MagpieRuns::play);
            }
            MagpieRuns x = written(text);
            Check.outcome(x::play);
            check.is("the buffer stays", x.clearBuffer(), text.length());
            check.is("no state is saved", x.savedStates(), 0);
        }
        check.answers("play of a complete game", written("r12"), MagpieRuns::play);
    }

    private static MagpieRuns rewritten(Moment moment, String text) {
        MagpieRuns x = moment.made();
        x.clearBuffer();
        return Boards.write(x, text);
    }

    private void latestPlay() {
        MagpieRuns x = new MagpieRuns();
        Boards.play(x, "r21");
        check.is("hasStopped behind a whole game", x.hasStopped(), false);
        Boards.play(x, "e");
        check.is("hasStopped behind a stop", x.hasStopped(), true);
        for (String text : new String[] {"", "e;", "z"}) {
            x.clearBuffer();
            Boards.write(x, text);
            check.raises("play of " + text, x, Check.ARGUMENT, x::play);
            check.is("hasStopped behind a play that throws", x.hasStopped(), true);
        }
        Boards.play(x, "m0.2");
        check.is("hasStopped behind the next whole game", x.hasStopped(), false);
        Boards.write(x, "z");
        check.raises("play that throws", x, Check.ARGUMENT, x::play);
        check.is("hasStopped behind a play that throws", x.hasStopped(), false);
    }

    private void aheadOfEnd() {
        String[] texts = {"e", "r21;e", "r21;m0.2;m0.1;e;e", "r21", "r21;m0.2;m0.1;e"};
        for (int i = 0; i < texts.length; i++) {
            MagpieRuns x = new MagpieRuns();
            Boards.play(x, texts[i]);
            check.is("hasStopped behind " + texts[i], x.hasStopped(), i < 3);
            x.append('e');
            x.clearBuffer();
            x.keep();
            check.is("hasStopped later on", x.hasStopped(), i < 3);
        }
    }

    private void withoutPlay() {
        check.is("hasStopped of a new object", new MagpieRuns().hasStopped(), false);
        MagpieRuns x = written("e;");
        check.raises("play that throws", x, Check.ARGUMENT, x::play);
        check.is("hasStopped behind a play that throws", x.hasStopped(), false);
        x.roll(2, 1);
        Check.outcome(x::endTurn);
        check.is("hasStopped behind a call that throws", x.hasStopped(), false);
    }

    private void stopOfLatest() {
        MagpieRuns x = new MagpieRuns();
        Boards.play(x, "x;t;r21;e");
        check.is("stoppedPart", x.stoppedPart(), 3);
        Boards.play(x, "m0.2;e");
        check.is("stoppedPart of the next", x.stoppedPart(), 1);
        x.step(0, 1);
        x.endTurn();
        check.is("stoppedPart later on", x.stoppedPart(), 1);
        Boards.play(x, "e");
        check.is("stoppedPart of the third", x.stoppedPart(), 0);
    }

    private void stopNumbers() {
        for (int stop = 0; stop < 30; stop++) {
            MagpieRuns x = new MagpieRuns();
            String text = "x;d;n;".repeat(10).substring(0, 2 * stop) + "e";
            Boards.play(x, text);
            check.is("stoppedPart", x.stoppedPart(), stop);
        }
    }

    private void noStop() {
        check.refused("stoppedPart without a play", MagpieRuns::new, Check.STATE, MagpieRuns::stoppedPart);
        check.refused("stoppedPart behind a whole game", TextBounds::playedWhole, Check.STATE, MagpieRuns::stoppedPart);
        check.is("stoppedPart of a new text", stoppedAgain().stoppedPart(), 0);
        check.refused("stoppedPart behind undo of the stop", TextBounds::undone, Check.STATE, MagpieRuns::stoppedPart);
        check.refusedIn(Set.of(), "stoppedPart", MagpieRuns::stoppedPart);
    }

    private static MagpieRuns playedWhole() {
        MagpieRuns x = Moment.AHEAD_OF_A_ROLL.made();
        Boards.play(x, "r21");
        return x;
    }

    private static MagpieRuns stoppedAgain() {
        MagpieRuns x = playedWhole();
        Boards.play(x, "e");
        return x;
    }

    private static MagpieRuns undone() {
        MagpieRuns x = stoppedAgain();
        x.undo();
        return x;
    }
}
