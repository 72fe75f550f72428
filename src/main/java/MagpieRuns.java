/**
 * Magpie Run: a race of two players on a run of sixteen points, with two dice, blots,
 * blockades and a stake that can be doubled. ../shared/DOC.md says what each call does.
 *
 * <p>Inside, all rules are told in ways (how many points a piece has to go until it is off):
 * told so, both players have the same rules.
 */
public final class MagpieRuns {
    private static final int POINTS = 16;
    private static final int LEAST_CODE = 33;
    private static final int GREATEST_CODE = 126;
    private static final long DIGEST_START = 4517L;

    private final Game now = new Game();
    private final Past past = new Past();
    private final Text text = new Text();
    private final Plays counter = new Plays();

    public MagpieRuns() {
    }

    // ---- the game

    public int roll(int first, int second) throws IllegalArgumentException, IllegalStateException {
        if (!Dice.isDie(first) || !Dice.isDie(second)) {
            throw new IllegalArgumentException();
        }
        if (!now.awaitsRoll()) {
            throw new IllegalStateException();
        }
        past.save(now);
        now.doRoll(first, second);
        return Dice.count(now.dice);
    }

    public boolean step(int from, int die)
            throws IndexOutOfBoundsException, IllegalArgumentException, IllegalStateException {
        if (!isPointOrBar(from)) {
            throw new IndexOutOfBoundsException();
        }
        if (!Dice.isDie(die)) {
            throw new IllegalArgumentException();
        }
        if (now.reasonAgainst(from, die) != 0) {
            throw new IllegalStateException();
        }
        past.save(now);
        return now.doStep(from, die);
    }

    public int endTurn() throws IllegalStateException {
        if (!now.canEndTurn()) {
            throw new IllegalStateException();
        }
        past.save(now);
        now.doEndTurn();
        return now.mover;
    }

    public int carry(int player, int from, int to) throws IndexOutOfBoundsException, IllegalStateException {
        if (!isPlayer(player) || !isPlace(from) || !isPlace(to)) {
            throw new IndexOutOfBoundsException();
        }
        if (!now.canCarry(player, from, to)) {
            throw new IllegalStateException();
        }
        past.save(now);
        now.doCarry(player, from, to);
        return Pieces.sumOfWays(now.piecesOf(player));
    }

    // ---- the stake

    public int offer() throws IllegalStateException {
        if (!now.canOffer()) {
            throw new IllegalStateException();
        }
        past.save(now);
        now.doOffer();
        return 2 * now.stake;
    }

    public int take() throws IllegalStateException {
        if (!now.isOffered()) {
            throw new IllegalStateException();
        }
        past.save(now);
        now.doTake();
        return now.stake;
    }

    public int drop() throws IllegalStateException {
        if (!now.isOffered()) {
            throw new IllegalStateException();
        }
        past.save(now);
        now.doDrop();
        return now.scoreOf(now.mover);
    }

    public int newGame() throws IllegalStateException {
        if (!now.isOver()) {
            throw new IllegalStateException();
        }
        past.save(now);
        now.doNewGame();
        return now.mover;
    }

    // ---- texts

    public int append(int code) throws IllegalArgumentException, IllegalStateException {
        if (code < LEAST_CODE || code > GREATEST_CODE) {
            throw new IllegalArgumentException();
        }
        if (text.isFull()) {
            throw new IllegalStateException();
        }
        text.put((char) code);
        return text.length;
    }

    public int clearBuffer() {
        int length = text.length;
        text.empty();
        return length;
    }

    public int firstError() {
        return text.firstWrong();
    }

    public int play() throws IllegalArgumentException {
        if (!text.isGame()) {
            throw new IllegalArgumentException();
        }
        past.save(now);
        int done = 0;
        int start = 0;
        boolean going = true;
        for (int part = 0; part < Text.MOST && going && start < text.length; part++) {
            int end = text.endOfPart(start);
            going = isPartPossible(start, end);
            if (going) {
                doPart(start, end);
                done++;
            }
            start = end + 1;
        }
        now.noteStop(!going, done);
        text.empty();
        return done;
    }

    public boolean hasStopped() {
        return now.stopped;
    }

    public int stoppedPart() throws IllegalStateException {
        if (!now.stopped) {
            throw new IllegalStateException();
        }
        return now.stopPart;
    }

    // ---- undo, the snapshot

    public int undo() throws IllegalStateException {
        if (past.count == 0) {
            throw new IllegalStateException();
        }
        past.takeBack(now);
        return past.count;
    }

    public int keep() {
        past.takeSnapshot(now);
        return now.mover;
    }

    public int restore() throws IllegalStateException {
        if (!past.hasSnapshot) {
            throw new IllegalStateException();
        }
        past.save(now);
        past.goToSnapshot(now);
        return now.mover;
    }

    public int savedStates() {
        return past.count;
    }

    // ---- looks at the run; nothing is changed

    public int mover() {
        return now.mover;
    }

    public int phase() {
        return now.phase;
    }

    public int diceLeft() {
        return Dice.count(now.dice);
    }

    public int dieLeft(int number) throws IndexOutOfBoundsException {
        if (number < 0 || number >= Dice.count(now.dice)) {
            throw new IndexOutOfBoundsException();
        }
        return Dice.at(now.dice, number);
    }

    public int piecesOn(int player, int point) throws IndexOutOfBoundsException {
        if (!isPlayer(player) || !isPoint(point)) {
            throw new IndexOutOfBoundsException();
        }
        return now.countAt(player, point);
    }

    public int onBar(int player) throws IndexOutOfBoundsException {
        if (!isPlayer(player)) {
            throw new IndexOutOfBoundsException();
        }
        return Pieces.on(now.piecesOf(player), Pieces.BAR);
    }

    public int borneOff(int player) throws IndexOutOfBoundsException {
        if (!isPlayer(player)) {
            throw new IndexOutOfBoundsException();
        }
        return Pieces.on(now.piecesOf(player), Pieces.OFF);
    }

    public int pips(int player) throws IndexOutOfBoundsException {
        if (!isPlayer(player)) {
            throw new IndexOutOfBoundsException();
        }
        return Pieces.sumOfWays(now.piecesOf(player));
    }

    public int blots(int player) throws IndexOutOfBoundsException {
        if (!isPlayer(player)) {
            throw new IndexOutOfBoundsException();
        }
        return Pieces.singles(now.piecesOf(player));
    }

    public int blockade(int player) throws IndexOutOfBoundsException {
        if (!isPlayer(player)) {
            throw new IndexOutOfBoundsException();
        }
        return Pieces.longestWall(now.piecesOf(player));
    }

    public int stake() {
        return now.stake;
    }

    public int cubeOf() {
        return now.cube;
    }

    public int score(int player) throws IndexOutOfBoundsException {
        if (!isPlayer(player)) {
            throw new IndexOutOfBoundsException();
        }
        return now.scoreOf(player);
    }

    public int hits(int player) throws IndexOutOfBoundsException {
        if (!isPlayer(player)) {
            throw new IndexOutOfBoundsException();
        }
        return now.hitsOf(player);
    }

    // ---- steps that are possible

    public int whyNoStep(int from, int die) throws IndexOutOfBoundsException, IllegalArgumentException {
        if (!isPointOrBar(from)) {
            throw new IndexOutOfBoundsException();
        }
        if (!Dice.isDie(die)) {
            throw new IllegalArgumentException();
        }
        return now.reasonAgainst(from, die);
    }

    public int possibleSteps() {
        return Steps.countPossible(now.moversPieces(), now.othersPieces(), now.dice);
    }

    public int reach() {
        return now.reachNow();
    }

    public int plays() {
        return counter.countEnds(now.moversPieces(), now.othersPieces(), now.dice, false);
    }

    public int playsByOrders() {
        return counter.countEnds(now.moversPieces(), now.othersPieces(), now.dice, true);
    }

    // ---- what would be; nothing is changed

    public int playsWith(int first, int second) throws IllegalArgumentException {
        if (!Dice.isDie(first) || !Dice.isDie(second)) {
            throw new IllegalArgumentException();
        }
        int dice = Dice.rolled(first, second);
        return counter.countEnds(now.moversPieces(), now.othersPieces(), dice, false);
    }

    public int shots(int point) throws IndexOutOfBoundsException {
        if (!isPoint(point)) {
            throw new IndexOutOfBoundsException();
        }
        return shotsRollByRoll(point);
    }

    public int shotsByKinds(int point) throws IndexOutOfBoundsException {
        if (!isPoint(point)) {
            throw new IndexOutOfBoundsException();
        }
        return shotsKindByKind(point);
    }

    public int entering(int player) throws IndexOutOfBoundsException {
        if (!isPlayer(player)) {
            throw new IndexOutOfBoundsException();
        }
        return Shots.rollsThatEnter(now.piecesOf(1 - player));
    }

    public int blotsBehind(int from, int die)
            throws IndexOutOfBoundsException, IllegalArgumentException, IllegalStateException {
        if (!isPointOrBar(from)) {
            throw new IndexOutOfBoundsException();
        }
        if (!Dice.isDie(die)) {
            throw new IllegalArgumentException();
        }
        if (now.reasonAgainst(from, die) != 0) {
            throw new IllegalStateException();
        }
        int way = Game.wayOf(now.mover, from);
        return Pieces.singles(Steps.mineBehind(now.moversPieces(), way, die));
    }

    public double lead() {
        return shareOfMover();
    }

    public long digest() {
        long mine = now.moversPieces();
        long theirs = now.othersPieces();
        long hash = addTurn(DIGEST_START);
        hash = added(hash, Steps.countPossible(mine, theirs, now.dice));
        hash = added(hash, now.reachNow());
        hash = added(hash, counter.countEnds(mine, theirs, now.dice, false));
        hash = added(hash, counter.countEnds(mine, theirs, now.dice, true));
        hash = added(hash, counter.countEnds(mine, theirs, Dice.rolled(6, 5), false));
        hash = added(hash, past.count);
        hash = addPlayer(hash, 0);
        hash = addPlayer(hash, 1);
        for (int point = 0; point < POINTS; point++) {
            hash = added(hash, shotsRollByRoll(point));
            hash = added(hash, shotsKindByKind(point));
        }
        hash = added(hash, now.stopped ? 1 : 0);
        if (now.stopped) {
            hash = added(hash, now.stopPart);
        }
        hash = added(hash, bitsOf(shareOfMover()));
        return addText(hash);
    }

    // ---- what the calls share

    private static boolean isPlayer(int player) {
        return player == 0 || player == 1;
    }

    private static boolean isPoint(int point) {
        return point >= 0 && point < POINTS;
    }

    private static boolean isPointOrBar(int place) {
        return place == Game.PLACE_BAR || isPoint(place);
    }

    private static boolean isPlace(int place) {
        return isPointOrBar(place) || place == Game.PLACE_OFF;
    }

    private int shotsRollByRoll(int point) {
        int owner = now.ownerOfBlot(point);
        if (owner < 0) {
            return 0;
        }
        int target = Game.wayOf(1 - owner, point);
        return Shots.rollByRoll(now.piecesOf(1 - owner), now.piecesOf(owner), target);
    }

    private int shotsKindByKind(int point) {
        int owner = now.ownerOfBlot(point);
        if (owner < 0) {
            return 0;
        }
        int target = Game.wayOf(1 - owner, point);
        return Shots.kindByKind(now.piecesOf(1 - owner), now.piecesOf(owner), target);
    }

    private double shareOfMover() {
        int mine = Pieces.sumOfWays(now.moversPieces());
        int theirs = Pieces.sumOfWays(now.othersPieces());
        if (mine + theirs == 0) {
            return 0.5;
        }
        return (double) theirs / (double) (mine + theirs);
    }

    private boolean isPartPossible(int start, int end) {
        switch (text.at(start)) {
            case 'r':
                return now.awaitsRoll();
            case 'm':
                return now.reasonAgainst(text.numberAt(start + 1), text.digitAt(end - 1)) == 0;
            case 'b':
                return now.reasonAgainst(Game.PLACE_BAR, text.digitAt(end - 1)) == 0;
            case 'e':
                return now.canEndTurn();
            case 'x':
                return now.canOffer();
            case 't':
            case 'd':
                return now.isOffered();
            default:
                return now.isOver();
        }
    }

    private void doPart(int start, int end) {
        switch (text.at(start)) {
            case 'r':
                now.doRoll(text.digitAt(start + 1), text.digitAt(start + 2));
                break;
            case 'm':
                now.doStep(text.numberAt(start + 1), text.digitAt(end - 1));
                break;
            case 'b':
                now.doStep(Game.PLACE_BAR, text.digitAt(end - 1));
                break;
            case 'e':
                now.doEndTurn();
                break;
            case 'x':
                now.doOffer();
                break;
            case 't':
                now.doTake();
                break;
            case 'd':
                now.doDrop();
                break;
            default:
                now.doNewGame();
                break;
        }
    }

    // ---- parts of the digest

    private static long added(long hash, long value) {
        return 31L * hash + value;
    }

    private long addTurn(long start) {
        long hash = added(start, now.mover);
        hash = added(hash, now.phase);
        hash = added(hash, Dice.count(now.dice));
        for (int i = 0; i < Dice.count(now.dice); i++) {
            hash = added(hash, Dice.at(now.dice, i));
        }
        hash = added(hash, now.stake);
        return added(hash, now.cube);
    }

    private long addPlayer(long start, int player) {
        long pieces = now.piecesOf(player);
        long hash = added(start, Pieces.on(pieces, Pieces.BAR));
        hash = added(hash, Pieces.on(pieces, Pieces.OFF));
        hash = added(hash, Pieces.sumOfWays(pieces));
        hash = added(hash, Pieces.singles(pieces));
        hash = added(hash, Pieces.longestWall(pieces));
        hash = added(hash, now.scoreOf(player));
        hash = added(hash, now.hitsOf(player));
        hash = added(hash, Shots.rollsThatEnter(now.piecesOf(1 - player)));
        for (int point = 0; point < POINTS; point++) {
            hash = added(hash, now.countAt(player, point));
        }
        return hash;
    }

    private long addText(long start) {
        long hash = added(start, text.length);
        for (int i = 0; i < text.length; i++) {
            hash = added(hash, text.at(i));
        }
        return hash;
    }

    /** The bits of a share from 0 to 1; by hand, for the language has no Double.doubleToLongBits. */
    private static long bitsOf(double share) {
        if (share <= 0.0) {
            return 0L;
        }
        double scaled = share;
        long exponent = 1023L;
        for (int i = 0; i < 1000 && scaled < 1.0; i++) {
            scaled = scaled * 2.0;
            exponent--;
        }
        return (exponent << 52) + (long) ((scaled - 1.0) * 4503599627370496.0);
    }

    /**
     * Dice that are left, as one number: three bits a die, the first rolled lowest. They are always
     * one die, two dice, or up to four alike.
     */
    private static final class Dice {
        static final int MOST = 4;

        static boolean isDie(int die) {
            return die >= 1 && die <= 6;
        }

        static int rolled(int first, int second) {
            int two = first | (second << 3);
            return first == second ? two | (two << 6) : two;
        }

        static int at(int dice, int number) {
            return (dice >>> (3 * number)) & 7;
        }

        static int count(int dice) {
            int count = 0;
            for (int i = 0; i < MOST; i++) {
                count += at(dice, i) == 0 ? 0 : 1;
            }
            return count;
        }

        /** How many different dice there are; they stand in front. */
        static int kinds(int dice) {
            if (dice == 0) {
                return 0;
            }
            return at(dice, 1) != 0 && at(dice, 0) != at(dice, 1) ? 2 : 1;
        }

        static boolean has(int dice, int die) {
            return (dice & 7) == die || ((dice >>> 3) & 7) == die;
        }

        /** The dice without the first one that shows this number. */
        static int without(int dice, int die) {
            if (at(dice, 0) == die) {
                return dice >>> 3;
            }
            return at(dice, 1) == die ? at(dice, 0) : dice;
        }

        /** Two unlike dice the other way round; all others as they are. */
        static int turned(int dice) {
            return kinds(dice) == 2 ? rolled(at(dice, 1), at(dice, 0)) : dice;
        }

        static int greater(int dice) {
            return Math.max(at(dice, 0), at(dice, 1));
        }
    }

    /**
     * The pieces of a player, as one number: for each way, from 0 (off) by 1 to 16 (on the run) to
     * 17 (on the bar), three bits tell how many pieces have it.
     */
    private static final class Pieces {
        static final int OFF = 0;
        static final int LONGEST_AT_HOME = 4;
        static final int LONGEST_ON_RUN = 16;
        static final int BAR = 17;
        /** The ways of both players from the same point are together so many. */
        static final int ACROSS = 17;
        static final long START = (2L << 48) | (2L << 36) | (2L << 27);

        static int on(long pieces, int way) {
            return (int) (pieces >>> (3 * way)) & 7;
        }

        static long moved(long pieces, int from, int to) {
            return pieces - (1L << (3 * from)) + (1L << (3 * to));
        }

        static boolean anyBeyond(long pieces, int way) {
            return (pieces >>> (3 * way + 3)) != 0L;
        }

        static boolean allOff(long pieces) {
            return !anyBeyond(pieces, OFF);
        }

        /** How many pieces the other player has on the point from which this one has this way. */
        static int across(long theirs, int way) {
            return (int) (theirs >>> (3 * (ACROSS - way))) & 7;
        }

        static int sumOfWays(long pieces) {
            int sum = 0;
            for (int way = 1; way <= BAR; way++) {
                sum += way * on(pieces, way);
            }
            return sum;
        }

        static int singles(long pieces) {
            int count = 0;
            for (int way = 1; way <= LONGEST_ON_RUN; way++) {
                count += on(pieces, way) == 1 ? 1 : 0;
            }
            return count;
        }

        static int longestWall(long pieces) {
            int longest = 0;
            int length = 0;
            for (int way = 1; way <= LONGEST_ON_RUN; way++) {
                length = on(pieces, way) >= 2 ? length + 1 : 0;
                longest = Math.max(longest, length);
            }
            return longest;
        }
    }

    /** Which steps are allowed and possible: "mine" are the pieces of the mover. */
    private static final class Steps {
        static final int NO_DIE = 1;
        static final int NO_PIECE = 2;
        static final int BAR_FIRST = 3;
        static final int BLOCKED = 4;
        static final int NOT_OFF_YET = 5;
        static final int WASTES_DICE = 6;

        /** The first of the reasons 1 to 5 why a step is not allowed; 0 if it is. */
        static int ban(long mine, long theirs, int dice, int way, int die) {
            if (!Dice.has(dice, die)) {
                return NO_DIE;
            }
            if (Pieces.on(mine, way) == 0) {
                return NO_PIECE;
            }
            if (way != Pieces.BAR && Pieces.on(mine, Pieces.BAR) > 0) {
                return BAR_FIRST;
            }
            if (die < way) {
                return Pieces.across(theirs, way - die) >= 2 ? BLOCKED : 0;
            }
            boolean tooGreat = die > way && Pieces.anyBeyond(mine, way);
            return tooGreat || Pieces.anyBeyond(mine, Pieces.LONGEST_AT_HOME) ? NOT_OFF_YET : 0;
        }

        static long mineBehind(long mine, int way, int die) {
            return Pieces.moved(mine, way, Math.max(Pieces.OFF, way - die));
        }

        static long theirsBehind(long theirs, int way, int die) {
            if (die >= way || Pieces.across(theirs, way - die) != 1) {
                return theirs;
            }
            return Pieces.moved(theirs, Pieces.ACROSS - (way - die), Pieces.BAR);
        }

        /** The reach of the dice; depth is a bound on the steps, Dice.MOST from outside. */
        private static int reachOf(long mine, long theirs, int dice, int depth) {
            if (dice == 0 || depth <= 0) {
                return 0;
            }
            int most = Dice.count(dice);
            int best = 0;
            for (int way = Pieces.BAR; way >= 1 && best < most; way--) {
                for (int kind = 0; kind < Dice.kinds(dice); kind++) {
                    int die = Dice.at(dice, kind);
                    if (ban(mine, theirs, dice, way, die) == 0) {
                        int rest = reachOf(mineBehind(mine, way, die),
                                theirsBehind(theirs, way, die), Dice.without(dice, die), depth - 1);
                        best = Math.max(best, 1 + rest);
                    }
                }
            }
            return best;
        }

        private static boolean isAnyAllowed(long mine, long theirs, int dice, int die) {
            for (int way = 1; way <= Pieces.BAR; way++) {
                if (ban(mine, theirs, dice, way, die) == 0) {
                    return true;
                }
            }
            return false;
        }

        /** The first reason why a step is not possible, 0 if it is; ahead is the reach ahead of it. */
        static int reason(long mine, long theirs, int dice, int way, int die, int ahead) {
            int first = ban(mine, theirs, dice, way, die);
            if (first != 0) {
                return first;
            }
            int behind = reachOf(mineBehind(mine, way, die), theirsBehind(theirs, way, die),
                    Dice.without(dice, die), Dice.MOST);
            if (behind < ahead - 1) {
                return WASTES_DICE;
            }
            boolean onlyOneOfTwo = Dice.kinds(dice) == 2 && ahead == 1;
            if (onlyOneOfTwo && die < Dice.greater(dice)
                    && isAnyAllowed(mine, theirs, dice, Dice.greater(dice))) {
                return WASTES_DICE;
            }
            return 0;
        }

        static int countPossible(long mine, long theirs, int dice) {
            int ahead = reachOf(mine, theirs, dice, Dice.MOST);
            int count = 0;
            for (int way = 1; way <= Pieces.BAR; way++) {
                for (int kind = 0; kind < Dice.kinds(dice); kind++) {
                    int die = Dice.at(dice, kind);
                    count += reason(mine, theirs, dice, way, die, ahead) == 0 ? 1 : 0;
                }
            }
            return count;
        }
    }

    /** Positions of which no two are alike: the pieces of both, and the dice that are left. */
    private static final class Positions {
        // Four steps by alike dice go to six pieces in at most 126 ways; two dice lead to fewer.
        private static final int MOST = 128;

        private final long[] mine = new long[MOST];
        private final long[] theirs = new long[MOST];
        private final int[] dice = new int[MOST];
        int size;

        private boolean isIn(int number) {
            return number >= 0 && number < size && number < MOST;
        }

        long mineAt(int number) {
            return isIn(number) ? mine[number] : 0L;
        }

        long theirsAt(int number) {
            return isIn(number) ? theirs[number] : 0L;
        }

        int diceAt(int number) {
            return isIn(number) ? dice[number] : 0;
        }

        void clear() {
            size = 0;
        }

        void add(long ownPieces, long otherPieces, int diceLeft) {
            for (int i = 0; i < size && i < MOST; i++) {
                if (mine[i] == ownPieces && theirs[i] == otherPieces && dice[i] == diceLeft) {
                    return;
                }
            }
            if (size >= 0 && size < MOST) {
                mine[size] = ownPieces;
                theirs[size] = otherPieces;
                dice[size] = diceLeft;
                size++;
            }
        }
    }

    /** Counts plays, going from all positions behind some steps to all behind one step more. */
    private static final class Plays {
        private Positions current = new Positions();
        private Positions following = new Positions();
        private final Positions ends = new Positions();

        /** In order, a die is used ahead of its turn only if no step with the next one is possible. */
        int countEnds(long mine, long theirs, int dice, boolean inOrder) {
            ends.clear();
            current.clear();
            current.add(mine, theirs, dice);
            if (inOrder) {
                current.add(mine, theirs, Dice.turned(dice));
            }
            for (int steps = 0; steps <= Dice.MOST; steps++) {
                following.clear();
                int size = current.size;
                for (int i = 0; i < size; i++) {
                    goOn(current.mineAt(i), current.theirsAt(i), current.diceAt(i), inOrder);
                }
                Positions emptied = current;
                current = following;
                following = emptied;
            }
            return ends.size;
        }

        private void goOn(long mine, long theirs, int dice, boolean inOrder) {
            int ahead = Steps.reachOf(mine, theirs, dice, Dice.MOST);
            boolean found = false;
            for (int kind = 0; kind < Dice.kinds(dice) && !(inOrder && found); kind++) {
                int die = Dice.at(dice, kind);
                for (int way = 1; way <= Pieces.BAR; way++) {
                    if (Steps.reason(mine, theirs, dice, way, die, ahead) == 0) {
                        found = true;
                        following.add(Steps.mineBehind(mine, way, die),
                                Steps.theirsBehind(theirs, way, die), Dice.without(dice, die));
                    }
                }
            }
            if (!found) {
                // Only where the pieces are tells plays apart, not which dice they leave.
                ends.add(mine, theirs, 0);
            }
        }
    }

    /** Rolls that hit a blot or enter a piece. */
    private static final class Shots {
        static int rollByRoll(long mine, long theirs, int target) {
            int count = 0;
            for (int first = 1; first <= 6; first++) {
                for (int second = 1; second <= 6; second++) {
                    count += canHit(mine, theirs, target, Dice.rolled(first, second)) ? 1 : 0;
                }
            }
            return count;
        }

        static int kindByKind(long mine, long theirs, int target) {
            int count = 0;
            for (int first = 1; first <= 6; first++) {
                for (int second = first; second <= 6; second++) {
                    int weight = first == second ? 1 : 2;
                    count += canHit(mine, theirs, target, Dice.rolled(first, second)) ? weight : 0;
                }
            }
            return count;
        }

        private static boolean canHit(long mine, long theirs, int target, int dice) {
            return hitsInOrder(mine, theirs, target, dice)
                    || hitsInOrder(mine, theirs, target, Dice.turned(dice));
        }

        /**
         * Whether a blot is hit when the dice are used in their order. Blocks stay where they are
         * whatever is done, so that it is enough to enter what is on the bar, and then to go on
         * with a single piece.
         */
        private static boolean hitsInOrder(long mine, long theirs, int target, int dice) {
            long pieces = mine;
            int left = dice;
            for (int i = 0; i < Dice.MOST && left != 0 && Pieces.on(pieces, Pieces.BAR) > 0; i++) {
                int way = Pieces.BAR - Dice.at(left, 0);
                if (way == target) {
                    return true;
                }
                if (Pieces.across(theirs, way) >= 2) {
                    return false;
                }
                pieces = Pieces.moved(pieces, Pieces.BAR, way);
                left = left >>> 3;
            }
            for (int way = target + 1; way <= Pieces.LONGEST_ON_RUN; way++) {
                if (Pieces.on(pieces, way) > 0 && walksInto(way, theirs, target, left)) {
                    return true;
                }
            }
            return false;
        }

        private static boolean walksInto(int start, long theirs, int target, int dice) {
            int way = start;
            for (int i = 0; i < Dice.MOST && Dice.at(dice, i) != 0; i++) {
                way -= Dice.at(dice, i);
                if (way == target) {
                    return true;
                }
                if (way < target || Pieces.across(theirs, way) >= 2) {
                    return false;
                }
            }
            return false;
        }

        static int rollsThatEnter(long theirs) {
            int closed = 0;
            for (int die = 1; die <= 6; die++) {
                closed += Pieces.across(theirs, Pieces.BAR - die) >= 2 ? 1 : 0;
            }
            return 36 - closed * closed;
        }
    }

    /** All that undo and the snapshot bring back, and what changes it. */
    private static final class Game {
        static final int PLACE_BAR = -1;
        static final int PLACE_OFF = 16;
        private static final int ROLL = 0;
        private static final int STEPS = 1;
        private static final int DOUBLE = 2;
        private static final int OVER = 3;
        private static final int GREATEST_DOUBLED = 32;

        int mover = 0;
        int phase = ROLL;
        int dice = 0;
        int stake = 1;
        int cube = -1;
        private long pieces0 = Pieces.START;
        private long pieces1 = Pieces.START;
        private int score0 = 0;
        private int score1 = 0;
        private int hits0 = 0;
        private int hits1 = 0;
        boolean stopped = false;
        int stopPart = 0;

        void noteStop(boolean hasStopped, int part) {
            stopped = hasStopped;
            stopPart = part;
        }

        void copyFrom(Game other) {
            mover = other.mover;
            phase = other.phase;
            dice = other.dice;
            stake = other.stake;
            cube = other.cube;
            pieces0 = other.pieces0;
            pieces1 = other.pieces1;
            score0 = other.score0;
            score1 = other.score1;
            hits0 = other.hits0;
            hits1 = other.hits1;
            stopped = other.stopped;
            stopPart = other.stopPart;
        }

        static int wayOf(int player, int place) {
            if (place == PLACE_BAR) {
                return Pieces.BAR;
            }
            if (place == PLACE_OFF) {
                return Pieces.OFF;
            }
            return player == 0 ? POINTS - place : place + 1;
        }

        long piecesOf(int player) {
            return player == 0 ? pieces0 : pieces1;
        }

        long moversPieces() {
            return piecesOf(mover);
        }

        long othersPieces() {
            return piecesOf(1 - mover);
        }

        private void setPieces(int player, long pieces) {
            if (player == 0) {
                pieces0 = pieces;
            } else {
                pieces1 = pieces;
            }
        }

        int countAt(int player, int place) {
            return Pieces.on(piecesOf(player), wayOf(player, place));
        }

        int ownerOfBlot(int point) {
            if (countAt(0, point) == 1) {
                return 0;
            }
            return countAt(1, point) == 1 ? 1 : -1;
        }

        int scoreOf(int player) {
            return player == 0 ? score0 : score1;
        }

        int hitsOf(int player) {
            return player == 0 ? hits0 : hits1;
        }

        boolean awaitsRoll() {
            return phase == ROLL;
        }

        void doRoll(int first, int second) {
            dice = Dice.rolled(first, second);
            phase = STEPS;
        }

        int reachNow() {
            return Steps.reachOf(moversPieces(), othersPieces(), dice, Dice.MOST);
        }

        int reasonAgainst(int from, int die) {
            return Steps.reason(moversPieces(), othersPieces(), dice, wayOf(mover, from), die,
                    reachNow());
        }

        boolean doStep(int from, int die) {
            int way = wayOf(mover, from);
            long theirs = Steps.theirsBehind(othersPieces(), way, die);
            boolean hit = theirs != othersPieces();
            setPieces(1 - mover, theirs);
            setPieces(mover, Steps.mineBehind(moversPieces(), way, die));
            dice = Dice.without(dice, die);
            if (hit) {
                countHit(1 - mover);
            }
            if (Pieces.allOff(moversPieces())) {
                boolean noneOff = Pieces.on(othersPieces(), Pieces.OFF) == 0;
                winBy(noneOff ? 2 * stake : stake);
            }
            return hit;
        }

        private void countHit(int player) {
            if (player == 0) {
                hits0++;
            } else {
                hits1++;
            }
        }

        private void winBy(int points) {
            if (mover == 0) {
                score0 += points;
            } else {
                score1 += points;
            }
            dice = 0;
            phase = OVER;
        }

        /** A step is possible just if the reach is not 0: one that begins a row so long. */
        boolean canEndTurn() {
            return phase == STEPS && reachNow() == 0;
        }

        void doEndTurn() {
            mover = 1 - mover;
            dice = 0;
            phase = ROLL;
        }

        boolean canCarry(int player, int from, int to) {
            if (phase != ROLL || countAt(player, from) == 0) {
                return false;
            }
            boolean toPoint = to != PLACE_BAR && to != PLACE_OFF;
            if (toPoint && countAt(1 - player, to) > 0) {
                return false;
            }
            return !Pieces.allOff(carried(player, from, to));
        }

        private long carried(int player, int from, int to) {
            return Pieces.moved(piecesOf(player), wayOf(player, from), wayOf(player, to));
        }

        void doCarry(int player, int from, int to) {
            setPieces(player, carried(player, from, to));
        }

        boolean canOffer() {
            boolean mayUseCube = cube == mover || cube == -1;
            return phase == ROLL && mayUseCube && stake <= GREATEST_DOUBLED;
        }

        void doOffer() {
            phase = DOUBLE;
        }

        boolean isOffered() {
            return phase == DOUBLE;
        }

        void doTake() {
            stake = 2 * stake;
            cube = 1 - mover;
            phase = ROLL;
        }

        void doDrop() {
            winBy(stake);
        }

        boolean isOver() {
            return phase == OVER;
        }

        /** The winner is always the mover, so that the other one begins; dice were cleared then. */
        void doNewGame() {
            mover = 1 - mover;
            phase = ROLL;
            stake = 1;
            cube = -1;
            pieces0 = Pieces.START;
            pieces1 = Pieces.START;
        }
    }

    /** The saved states, the oldest first, and the snapshot; its games are used again and again. */
    private static final class Past {
        private static final int MOST = 5;

        private final Game[] saved = new Game[MOST];
        private final Game snapshot = new Game();
        boolean hasSnapshot = false;
        int count = 0;

        Past() {
            for (int i = 0; i < MOST; i++) {
                saved[i] = new Game();
            }
        }

        void save(Game game) {
            if (count >= MOST) {
                dropOldest();
            }
            Game next = gameAt(count);
            if (next != null) {
                next.copyFrom(game);
                count++;
            }
        }

        private Game gameAt(int number) {
            return number >= 0 && number < MOST ? saved[number] : null;
        }

        private void dropOldest() {
            Game oldest = saved[0];
            for (int i = 1; i < MOST; i++) {
                saved[i - 1] = saved[i];
            }
            saved[MOST - 1] = oldest;
            count--;
        }

        void takeBack(Game game) {
            Game latest = gameAt(count - 1);
            if (latest != null) {
                game.copyFrom(latest);
                count--;
            }
        }

        void takeSnapshot(Game game) {
            snapshot.copyFrom(game);
            hasSnapshot = true;
        }

        void goToSnapshot(Game game) {
            game.copyFrom(snapshot);
        }
    }

    /** The buffer, and the syntax of games as texts, read by what may come next. */
    private static final class Text {
        static final int MOST = 60;
        private static final int PART = 0;
        private static final int TWO_DICE = 1;
        private static final int DIE = 2;
        private static final int POINT = 3;
        private static final int DOT_OR_DIGIT = 4;
        private static final int DOT = 5;
        private static final int PART_ENDS = 6;
        private static final int WRONG = 7;

        private final char[] signs = new char[MOST];
        int length = 0;

        boolean isFull() {
            return length >= MOST;
        }

        void put(char sign) {
            if (length >= 0 && length < MOST) {
                signs[length] = sign;
                length++;
            }
        }

        void empty() {
            length = 0;
        }

        /** The character at an index; 0 outside of the text. */
        char at(int index) {
            return index >= 0 && index < length && index < MOST ? signs[index] : 0;
        }

        /** The index behind the part that begins at an index. */
        int endOfPart(int start) {
            for (int i = Math.max(0, start); i < length; i++) {
                if (at(i) == ';') {
                    return i;
                }
            }
            return length;
        }

        int digitAt(int index) {
            return at(index) - '0';
        }

        /** The number of one or two digits that begins at an index. */
        int numberAt(int index) {
            int first = digitAt(index);
            return isDigit(at(index + 1)) ? 10 * first + digitAt(index + 1) : first;
        }

        int firstWrong() {
            int awaited = PART;
            for (int i = 0; i < length; i++) {
                awaited = awaitedBehind(awaited, at(i));
                if (awaited == WRONG) {
                    return i;
                }
            }
            return length;
        }

        boolean isGame() {
            int awaited = PART;
            for (int i = 0; i < length; i++) {
                awaited = awaitedBehind(awaited, at(i));
            }
            return awaited == PART_ENDS;
        }

        private static boolean isDigit(char sign) {
            return sign >= '0' && sign <= '9';
        }

        private static boolean isDieSign(char sign) {
            return sign >= '1' && sign <= '6';
        }

        /** What is awaited behind a sign, where something is awaited at it. */
        private static int awaitedBehind(int awaited, char sign) {
            switch (awaited) {
                case PART:
                    return awaitedInPart(sign);
                case TWO_DICE:
                    return isDieSign(sign) ? DIE : WRONG;
                case DIE:
                    return isDieSign(sign) ? PART_ENDS : WRONG;
                case POINT:
                    return awaitedBehindDigit(sign);
                case DOT_OR_DIGIT:
                    return sign >= '0' && sign <= '5' ? DOT : awaitedBehindDot(sign);
                case DOT:
                    return awaitedBehindDot(sign);
                case PART_ENDS:
                    return sign == ';' ? PART : WRONG;
                default:
                    return WRONG;
            }
        }

        private static int awaitedInPart(char sign) {
            switch (sign) {
                case 'r':
                    return TWO_DICE;
                case 'm':
                    return POINT;
                case 'b':
                    return DOT;
                case 'e':
                case 'x':
                case 't':
                case 'd':
                case 'n':
                    return PART_ENDS;
                default:
                    return WRONG;
            }
        }

        /** Only a 1 can have a second digit, for the last point is 15. */
        private static int awaitedBehindDigit(char sign) {
            if (sign == '1') {
                return DOT_OR_DIGIT;
            }
            return isDigit(sign) ? DOT : WRONG;
        }

        private static int awaitedBehindDot(char sign) {
            return sign == '.' ? DIE : WRONG;
        }
    }
}
