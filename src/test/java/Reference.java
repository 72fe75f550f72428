import java.util.ArrayList;
import java.util.HashMap;
import java.util.HashSet;
import java.util.List;
import java.util.Map;
import java.util.Set;
import java.util.regex.Matcher;
import java.util.regex.Pattern;

/**
 * The document once more, word by word and as slow as may be, with points instead of ways, to
 * compare the program with.
 */
final class Reference {
    private static final String PART = "(r[1-6][1-6]|m(0|[1-9]|1[0-5])\\.[1-6]|b\\.[1-6]|[extdn])";
    private static final Pattern GAME = Pattern.compile(PART + "(;" + PART + ")*");

    /** A position: pieces[player][place + 1], the place -1 is the bar, 16 is off. */
    static final class Position {
        final int[][] pieces = new int[2][18];
        int mover;
        List<Integer> dice = new ArrayList<>();

        Position copy() {
            Position copy = new Position();
            for (int i = 0; i < 2; i++) {
                copy.pieces[i] = pieces[i].clone();
            }
            copy.mover = mover;
            copy.dice = new ArrayList<>(dice);
            return copy;
        }

        String places() {
            return java.util.Arrays.toString(pieces[0]) + java.util.Arrays.toString(pieces[1]);
        }

        String key() {
            return places() + mover + dice;
        }

        int on(int player, int place) {
            return pieces[player][place + 1];
        }

        int goal(int from, int die) {
            if (mover == 0) {
                return from == -1 ? die - 1 : from + die;
            }
            return from == -1 ? 16 - die : from - die;
        }

        boolean isHome(int player, int point) {
            return player == 0 ? point >= 12 : point <= 3;
        }

        static int way(int player, int place) {
            if (place == -1) {
                return 17;
            }
            return player == 0 ? 16 - place : place + 1;
        }

        int ban(int from, int die) {
            if (!dice.contains(die)) {
                return 1;
            }
            if (on(mover, from) == 0) {
                return 2;
            }
            if (on(mover, -1) > 0 && from != -1) {
                return 3;
            }
            int goal = goal(from, die);
            if (goal >= 0 && goal <= 15) {
                return on(1 - mover, goal) >= 2 ? 4 : 0;
            }
            boolean allHome = on(mover, -1) == 0;
            boolean longer = on(mover, -1) > 0;
            for (int point = 0; point < 16; point++) {
                if (on(mover, point) > 0) {
                    allHome &= isHome(mover, point);
                    longer |= way(mover, point) > way(mover, from);
                }
            }
            return !allHome || die > way(mover, from) && longer ? 5 : 0;
        }

        boolean hits(int from, int die) {
            int goal = goal(from, die);
            return goal >= 0 && goal <= 15 && on(1 - mover, goal) == 1;
        }

        Position behind(int from, int die) {
            Position next = copy();
            int goal = goal(from, die);
            next.pieces[mover][from + 1]--;
            if (hits(from, die)) {
                next.pieces[1 - mover][goal + 1]--;
                next.pieces[1 - mover][0]++;
            }
            next.pieces[mover][goal >= 0 && goal <= 15 ? goal + 1 : 17]++;
            next.dice.remove((Object) die);
            return next;
        }

        int reach(Map<String, Integer> known) {
            Integer found = known.get(key());
            if (found != null) {
                return found;
            }
            int best = 0;
            for (int from = -1; from < 16; from++) {
                for (int die = 1; die <= 6; die++) {
                    if (ban(from, die) == 0) {
                        best = Math.max(best, 1 + behind(from, die).reach(known));
                    }
                }
            }
            known.put(key(), best);
            return best;
        }

        int reason(int from, int die, Map<String, Integer> known) {
            int ban = ban(from, die);
            if (ban != 0) {
                return ban;
            }
            if (behind(from, die).reach(known) < reach(known) - 1) {
                return 6;
            }
            if (dice.size() == 2 && !dice.get(0).equals(dice.get(1)) && reach(known) == 1) {
                int greater = Math.max(dice.get(0), dice.get(1));
                for (int other = -1; other < 16 && die < greater; other++) {
                    if (ban(other, greater) == 0) {
                        return 6;
                    }
                }
            }
            return 0;
        }

        void ends(Set<String> seen, Set<String> ends, Map<String, Integer> known) {
            if (!seen.add(key())) {
                return;
            }
            boolean found = false;
            for (int from = -1; from < 16; from++) {
                for (int die = 1; die <= 6; die++) {
                    if (reason(from, die, known) == 0) {
                        found = true;
                        behind(from, die).ends(seen, ends, known);
                    }
                }
            }
            if (!found) {
                ends.add(places());
            }
        }

        boolean anyPossible(int die, Map<String, Integer> known) {
            for (int from = -1; from < 16; from++) {
                if (reason(from, die, known) == 0) {
                    return true;
                }
            }
            return false;
        }

        void endsInOrder(List<Integer> order, Set<String> ends, Map<String, Integer> known) {
            for (int i = 0; i < order.size(); i++) {
                int die = order.get(i);
                if (anyPossible(die, known)) {
                    List<Integer> rest = new ArrayList<>(order);
                    rest.remove(i);
                    for (int from = -1; from < 16; from++) {
                        if (reason(from, die, known) == 0) {
                            behind(from, die).endsInOrder(rest, ends, known);
                        }
                    }
                    return;
                }
            }
            ends.add(places());
        }

        boolean canHit(int target, Set<String> seen) {
            if (!seen.add(key())) {
                return false;
            }
            for (int from = -1; from < 16; from++) {
                for (int die = 1; die <= 6; die++) {
                    if (ban(from, die) == 0
                            && (goal(from, die) == target || behind(from, die).canHit(target, seen))) {
                        return true;
                    }
                }
            }
            return false;
        }
    }

    private static final class State {
        Position position = new Position();
        int phase = 0;
        int stake = 1;
        int cube = -1;
        int[] score = new int[2];
        int[] hits = new int[2];
        boolean stopped = false;
        int stopPart = -1;

        State copy() {
            State copy = new State();
            copy.position = position.copy();
            copy.phase = phase;
            copy.stake = stake;
            copy.cube = cube;
            copy.score = score.clone();
            copy.hits = hits.clone();
            copy.stopped = stopped;
            copy.stopPart = stopPart;
            return copy;
        }
    }

    private State now = new State();
    private final List<State> saved = new ArrayList<>();
    private State snapshot = null;
    private String buffer = "";
    private boolean inPlay = false;

    Reference() {
        begin(0);
    }

    private void begin(int mover) {
        now.position = new Position();
        now.position.mover = mover;
        for (int point : new int[] {0, 4, 7}) {
            now.position.pieces[0][point + 1] = 2;
            now.position.pieces[1][15 - point + 1] = 2;
        }
        now.phase = 0;
        now.stake = 1;
        now.cube = -1;
    }

    private void save(State state) {
        if (inPlay) {
            return;
        }
        saved.add(state);
        if (saved.size() > 5) {
            saved.remove(0);
        }
    }

    private void save() {
        save(now.copy());
    }

    private static void argument(boolean right) {
        if (!right) {
            throw new IllegalArgumentException();
        }
    }

    private static void state(boolean right) {
        if (!right) {
            throw new IllegalStateException();
        }
    }

    private static void bounds(int value, int least, int greatest) {
        if (value < least || value > greatest) {
            throw new IndexOutOfBoundsException();
        }
    }

    private static boolean isDie(int die) {
        return die >= 1 && die <= 6;
    }

    int roll(int first, int second) {
        argument(isDie(first) && isDie(second));
        state(now.phase == 0);
        save();
        now.position.dice = rolled(first, second);
        now.phase = 1;
        return now.position.dice.size();
    }

    private static List<Integer> rolled(int first, int second) {
        List<Integer> dice = new ArrayList<>(List.of(first, second));
        if (first == second) {
            dice.addAll(List.of(first, second));
        }
        return dice;
    }

    boolean step(int from, int die) {
        state(whyNoStep(from, die) == 0);
        save();
        int mover = now.position.mover;
        boolean hit = now.position.hits(from, die);
        now.position = now.position.behind(from, die);
        now.hits[1 - mover] += hit ? 1 : 0;
        if (borneOff(mover) == 6) {
            win(borneOff(1 - mover) == 0 ? 2 * now.stake : now.stake);
        }
        return hit;
    }

    private void win(int points) {
        now.score[now.position.mover] += points;
        now.position.dice.clear();
        now.phase = 3;
    }

    int endTurn() {
        state(now.phase == 1 && possibleSteps() == 0);
        save();
        now.position.mover = 1 - now.position.mover;
        now.position.dice.clear();
        now.phase = 0;
        return now.position.mover;
    }

    int carry(int player, int from, int to) {
        bounds(player, 0, 1);
        bounds(from, -1, 16);
        bounds(to, -1, 16);
        state(now.phase == 0 && now.position.on(player, from) > 0);
        state(to == -1 || to == 16 || now.position.on(1 - player, to) == 0);
        state(!(to == 16 && from != 16 && borneOff(player) == 5));
        save();
        now.position.pieces[player][from + 1]--;
        now.position.pieces[player][to + 1]++;
        return pips(player);
    }

    int offer() {
        boolean may = now.cube == -1 || now.cube == now.position.mover;
        state(now.phase == 0 && may && now.stake <= 32);
        save();
        now.phase = 2;
        return 2 * now.stake;
    }

    int take() {
        state(now.phase == 2);
        save();
        now.stake *= 2;
        now.cube = 1 - now.position.mover;
        now.phase = 0;
        return now.stake;
    }

    int drop() {
        state(now.phase == 2);
        save();
        win(now.stake);
        return now.score[now.position.mover];
    }

    int newGame() {
        state(now.phase == 3);
        save();
        begin(1 - now.position.mover);
        return now.position.mover;
    }

    int append(int code) {
        argument(code >= 33 && code <= 126);
        state(buffer.length() < 60);
        buffer += (char) code;
        return buffer.length();
    }

    int clearBuffer() {
        int length = buffer.length();
        buffer = "";
        return length;
    }

    int firstError() {
        for (int i = 0; i < buffer.length(); i++) {
            Matcher matcher = GAME.matcher(buffer.substring(0, i + 1));
            if (!matcher.matches() && !matcher.hitEnd()) {
                return i;
            }
        }
        return buffer.length();
    }

    int play() {
        argument(GAME.matcher(buffer).matches());
        save();
        inPlay = true;
        String[] parts = buffer.split(";");
        int done = 0;
        boolean going = true;
        while (going && done < parts.length) {
            going = isDone(parts[done]);
            done += going ? 1 : 0;
        }
        inPlay = false;
        now.stopped = !going;
        now.stopPart = done;
        buffer = "";
        return done;
    }

    private boolean isDone(String part) {
        try {
            doPart(part);
            return true;
        } catch (IllegalStateException e) {
            return false;
        }
    }

    private void doPart(String part) {
        int last = part.charAt(part.length() - 1) - '0';
        switch (part.charAt(0)) {
            case 'r' -> roll(part.charAt(1) - '0', last);
            case 'm' -> step(Integer.parseInt(part.substring(1, part.indexOf('.'))), last);
            case 'b' -> step(-1, last);
            case 'e' -> endTurn();
            case 'x' -> offer();
            case 't' -> take();
            case 'd' -> drop();
            default -> newGame();
        }
    }

    boolean hasStopped() {
        return now.stopped;
    }

    int stoppedPart() {
        state(now.stopped);
        return now.stopPart;
    }

    int undo() {
        state(!saved.isEmpty());
        now = saved.remove(saved.size() - 1);
        return saved.size();
    }

    int keep() {
        snapshot = now.copy();
        return now.position.mover;
    }

    int restore() {
        state(snapshot != null);
        save();
        now = snapshot.copy();
        return now.position.mover;
    }

    int savedStates() {
        return saved.size();
    }

    int mover() {
        return now.position.mover;
    }

    int phase() {
        return now.phase;
    }

    int diceLeft() {
        return now.position.dice.size();
    }

    int dieLeft(int number) {
        bounds(number, 0, diceLeft() - 1);
        return now.position.dice.get(number);
    }

    int piecesOn(int player, int point) {
        bounds(player, 0, 1);
        bounds(point, 0, 15);
        return now.position.on(player, point);
    }

    int onBar(int player) {
        bounds(player, 0, 1);
        return now.position.on(player, -1);
    }

    int borneOff(int player) {
        bounds(player, 0, 1);
        return now.position.on(player, 16);
    }

    int pips(int player) {
        bounds(player, 0, 1);
        int pips = 0;
        for (int place = -1; place < 16; place++) {
            pips += now.position.on(player, place) * Position.way(player, place);
        }
        return pips;
    }

    int blots(int player) {
        bounds(player, 0, 1);
        return blots(now.position, player);
    }

    private static int blots(Position position, int player) {
        int blots = 0;
        for (int point = 0; point < 16; point++) {
            blots += position.on(player, point) == 1 ? 1 : 0;
        }
        return blots;
    }

    int blockade(int player) {
        bounds(player, 0, 1);
        int longest = 0;
        for (int first = 0; first < 16; first++) {
            for (int last = first; last < 16 && piecesOn(player, last) >= 2; last++) {
                longest = Math.max(longest, last - first + 1);
            }
        }
        return longest;
    }

    int stake() {
        return now.stake;
    }

    int cubeOf() {
        return now.cube;
    }

    int score(int player) {
        bounds(player, 0, 1);
        return now.score[player];
    }

    int hits(int player) {
        bounds(player, 0, 1);
        return now.hits[player];
    }

    int whyNoStep(int from, int die) {
        bounds(from, -1, 15);
        argument(isDie(die));
        return now.position.reason(from, die, new HashMap<>());
    }

    int possibleSteps() {
        int count = 0;
        for (int from = -1; from < 16; from++) {
            for (int die = 1; die <= 6; die++) {
                count += whyNoStep(from, die) == 0 ? 1 : 0;
            }
        }
        return count;
    }

    int reach() {
        return now.position.reach(new HashMap<>());
    }

    int plays() {
        Set<String> ends = new HashSet<>();
        now.position.ends(new HashSet<>(), ends, new HashMap<>());
        return ends.size();
    }

    int playsByOrders() {
        List<Integer> dice = now.position.dice;
        if (dice.size() != 2 || dice.get(0).equals(dice.get(1))) {
            return plays();
        }
        Set<String> ends = new HashSet<>();
        Map<String, Integer> known = new HashMap<>();
        now.position.endsInOrder(dice, ends, known);
        now.position.endsInOrder(List.of(dice.get(1), dice.get(0)), ends, known);
        return ends.size();
    }

    int playsWith(int first, int second) {
        argument(isDie(first) && isDie(second));
        Position position = now.position.copy();
        position.dice = rolled(first, second);
        Set<String> ends = new HashSet<>();
        position.ends(new HashSet<>(), ends, new HashMap<>());
        return ends.size();
    }

    private boolean isShot(int point, int first, int second) {
        Position position = now.position.copy();
        position.mover = position.on(0, point) == 1 ? 1 : 0;
        position.dice = rolled(first, second);
        return position.on(1 - position.mover, point) == 1 && position.canHit(point, new HashSet<>());
    }

    int shots(int point) {
        bounds(point, 0, 15);
        int count = 0;
        for (int first = 1; first <= 6; first++) {
            for (int second = 1; second <= 6; second++) {
                count += isShot(point, first, second) ? 1 : 0;
            }
        }
        return count;
    }

    int shotsByKinds(int point) {
        bounds(point, 0, 15);
        int count = 0;
        for (int first = 1; first <= 6; first++) {
            for (int second = first; second <= 6; second++) {
                count += isShot(point, first, second) ? first == second ? 1 : 2 : 0;
            }
        }
        return count;
    }

    int entering(int player) {
        bounds(player, 0, 1);
        int count = 0;
        for (int first = 1; first <= 6; first++) {
            for (int second = 1; second <= 6; second++) {
                count += isOpen(player, first) || isOpen(player, second) ? 1 : 0;
            }
        }
        return count;
    }

    private boolean isOpen(int player, int die) {
        return now.position.on(1 - player, player == 0 ? die - 1 : 16 - die) < 2;
    }

    int blotsBehind(int from, int die) {
        state(whyNoStep(from, die) == 0);
        return blots(now.position.behind(from, die), now.position.mover);
    }

    double lead() {
        int mine = pips(mover());
        int theirs = pips(1 - mover());
        return mine + theirs == 0 ? 0.5 : (double) theirs / (mine + theirs);
    }

    long digest() {
        List<Long> values = new ArrayList<>();
        add(values, mover(), phase(), diceLeft());
        for (int die : now.position.dice) {
            add(values, die);
        }
        add(values, stake(), cubeOf(), possibleSteps(), reach(), plays(), playsByOrders());
        add(values, playsWith(6, 5), savedStates());
        for (int player = 0; player < 2; player++) {
            add(values, onBar(player), borneOff(player), pips(player), blots(player));
            add(values, blockade(player), score(player), hits(player), entering(player));
            for (int point = 0; point < 16; point++) {
                add(values, piecesOn(player, point));
            }
        }
        for (int point = 0; point < 16; point++) {
            add(values, shots(point), shotsByKinds(point));
        }
        add(values, hasStopped() ? 1 : 0);
        if (hasStopped()) {
            add(values, stoppedPart());
        }
        add(values, Double.doubleToLongBits(lead()));
        add(values, buffer.length());
        for (char code : buffer.toCharArray()) {
            add(values, code);
        }
        long hash = 4517;
        for (long value : values) {
            hash = 31 * hash + value;
        }
        return hash;
    }

    private static void add(List<Long> list, long... values) {
        for (long value : values) {
            list.add(value);
        }
    }

    /** The steps that are possible, as pairs of a place and a die. */
    List<int[]> steps() {
        List<int[]> steps = new ArrayList<>();
        for (int from = -1; from < 16; from++) {
            for (int die = 1; die <= 6; die++) {
                if (now.position.dice.contains(die) && whyNoStep(from, die) == 0) {
                    steps.add(new int[] {from, die});
                }
            }
        }
        return steps;
    }
}
