import java.util.ArrayList;
import java.util.Arrays;
import java.util.HashMap;
import java.util.List;
import java.util.Map;
import java.util.NoSuchElementException;
import java.util.TreeMap;
import java.util.regex.Matcher;
import java.util.regex.Pattern;

/**
 * The document told once more, in the slowest and plainest way, for the tests that compare runs of
 * calls. It shares nothing with the class: cells are the document's numbers, boards are maps.
 */
final class Model {
    /** A board: its pieces, and the boards that it was, one for each move made on it. */
    private static final class Tower {
        Map<Integer, Integer> pieces = new TreeMap<>();
        Map<Integer, Integer> earlier = null;
        int count = 0;
        int[] latest = null;

        Tower copy() {
            Tower t = new Tower();
            t.pieces = new TreeMap<>(pieces);
            t.earlier = earlier == null ? null : new TreeMap<>(earlier);
            t.count = count;
            t.latest = latest == null ? null : latest.clone();
            return t;
        }
    }

    /** Everything that an undo brings back. */
    private static final class State {
        int w, h, time, toMove, won, pause = 2, wait = 3, tries = 4;
        int[] clocks = {1000, 1000};
        Tower[] towers = {new Tower(), new Tower()};
        TreeMap<Integer, int[]> fogs = new TreeMap<>();
        List<int[]> sent = new ArrayList<>();
        List<int[]> made = new ArrayList<>();

        State copy() {
            State s = new State();
            s.w = w;
            s.h = h;
            s.time = time;
            s.toMove = toMove;
            s.won = won;
            s.pause = pause;
            s.wait = wait;
            s.tries = tries;
            s.clocks = clocks.clone();
            s.towers = new Tower[] {towers[0].copy(), towers[1].copy()};
            s.fogs = new TreeMap<>(fogs);
            s.sent = new ArrayList<>(sent);
            s.made = new ArrayList<>(made);
            return s;
        }
    }

    private static final class Wrong extends RuntimeException {
        private static final long serialVersionUID = 1;
        final int code;
        final int at;

        Wrong(int code, int at) {
            this.code = code;
            this.at = at;
        }
    }

    private static final int[] VALUE = {100, 9, 5, 3, 3, 1};
    private static final List<String> KINDS = List.of("king", "queen", "rook", "bishop", "knight", "pawn");

    private StringBuilder input = new StringBuilder();
    private int code = 0;
    private int offset = -1;
    private String output = "";
    private State s;
    private State saved = null;
    private final List<State> undos = new ArrayList<>();

    Model() {
        s = parse("game 5 5;white king 2 0;white rook 0 0;black king 2 4;black rook 4 4;");
    }

    // ---- setup text

    private State parse(String text) {
        List<String> tokens = new ArrayList<>();
        List<Integer> starts = new ArrayList<>();
        Matcher m = Pattern.compile("[a-z]+|[0-9]+|[^ \n]", Pattern.DOTALL).matcher(text);
        while (m.find()) {
            tokens.add(m.group());
            starts.add(m.start());
        }
        tokens.add("");
        starts.add(text.length());
        int[] at = {0};
        State n = new State();
        word(tokens, starts, at, "game");
        n.w = number(tokens, starts, at, 4, 8);
        n.h = number(tokens, starts, at, 4, 8);
        word(tokens, starts, at, ";");
        List<String> told = new ArrayList<>();
        while (!tokens.get(at[0]).isEmpty()) {
            statement(n, told, tokens, starts, at);
            word(tokens, starts, at, ";");
        }
        Map<Integer, Integer> all = n.towers[0].pieces;
        if (!all.containsValue(0) || !all.containsValue(6)) {
            throw new Wrong(5, text.length());
        }
        return n;
    }

    private void statement(State n, List<String> told, List<String> tokens, List<Integer> starts, int[] at) {
        String first = tokens.get(at[0]);
        int start = starts.get(at[0]);
        if (told.contains(first)) {
            throw new Wrong(3, start);
        }
        at[0]++;
        switch (first) {
            case "clock":
                n.clocks[0] = number(tokens, starts, at, 1, 9999);
                n.clocks[1] = number(tokens, starts, at, 1, 9999);
                told.add(first);
                break;
            case "pause":
                n.pause = number(tokens, starts, at, 1, 5);
                told.add(first);
                break;
            case "wait":
                n.wait = number(tokens, starts, at, 0, 9);
                told.add(first);
                break;
            case "tries":
                n.tries = number(tokens, starts, at, 1, 9);
                told.add(first);
                break;
            case "fog":
                if (n.fogs.size() == 8) {
                    throw new Wrong(4, start);
                }
                int from = number(tokens, starts, at, 0, 9999);
                if (n.fogs.containsKey(from)) {
                    throw new Wrong(3, starts.get(at[0] - 1));
                }
                int lasting = number(tokens, starts, at, 1, 999);
                n.fogs.put(from, new int[] {lasting, number(tokens, starts, at, 1, 9)});
                break;
            case "white":
            case "black":
                pieceStatement(n, first.equals("white") ? 0 : 6, start, tokens, starts, at);
                break;
            default:
                throw new Wrong(1, start);
        }
    }

    private void pieceStatement(State n, int more, int start, List<String> tokens, List<Integer> starts, int[] at) {
        Map<Integer, Integer> all = n.towers[0].pieces;
        if (all.size() == 32) {
            throw new Wrong(4, start);
        }
        int kind = KINDS.indexOf(tokens.get(at[0]));
        if (kind < 0) {
            throw new Wrong(1, starts.get(at[0]));
        }
        if (kind == 0 && all.containsValue(more)) {
            throw new Wrong(3, starts.get(at[0]));
        }
        at[0]++;
        int x = number(tokens, starts, at, 0, n.w - 1);
        int y = number(tokens, starts, at, 0, n.h - 1);
        if (all.containsKey(x + n.w * y)) {
            throw new Wrong(3, starts.get(at[0] - 1));
        }
        n.towers[0].pieces.put(x + n.w * y, kind + more);
        n.towers[1].pieces.put(x + n.w * y, kind + more);
    }

    private static void word(List<String> tokens, List<Integer> starts, int[] at, String word) {
        if (!tokens.get(at[0]).equals(word)) {
            throw new Wrong(1, starts.get(at[0]));
        }
        at[0]++;
    }

    private static int number(List<String> tokens, List<Integer> starts, int[] at, int least, int most) {
        String token = tokens.get(at[0]);
        if (!token.matches("[0-9]{1,4}")) {
            throw new Wrong(1, starts.get(at[0]));
        }
        int value = Integer.parseInt(token);
        if (value < least || value > most) {
            throw new Wrong(2, starts.get(at[0]));
        }
        at[0]++;
        return value;
    }

    // ---- moves

    /** The cells that a piece could go to from a cell, over empty cells of a board. */
    private List<Integer> targets(Map<Integer, Integer> p, int cell, int code) {
        List<Integer> found = new ArrayList<>();
        int side = code / 6;
        int x = cell % s.w;
        int y = cell / s.w;
        int[][] straight = {{1, 0}, {-1, 0}, {0, 1}, {0, -1}};
        int[][] slanting = {{1, 1}, {1, -1}, {-1, 1}, {-1, -1}};
        int[][] jumps = {{1, 2}, {2, 1}, {-1, 2}, {-2, 1}, {1, -2}, {2, -1}, {-1, -2}, {-2, -1}};
        switch (code % 6) {
            case 0:
                rays(p, found, x, y, side, straight, 1);
                rays(p, found, x, y, side, slanting, 1);
                break;
            case 1:
                rays(p, found, x, y, side, straight, 9);
                rays(p, found, x, y, side, slanting, 9);
                break;
            case 2:
                rays(p, found, x, y, side, straight, 9);
                break;
            case 3:
                rays(p, found, x, y, side, slanting, 9);
                break;
            case 4:
                rays(p, found, x, y, side, jumps, 1);
                break;
            default:
                int up = y + (side == 0 ? 1 : -1);
                for (int to = x - 1; to <= x + 1; to++) {
                    if (isOn(to, up)) {
                        Integer there = p.get(to + s.w * up);
                        if (to == x ? there == null : there != null && there / 6 != side) {
                            found.add(to + s.w * up);
                        }
                    }
                }
        }
        found.sort(null);
        return found;
    }

    private void rays(Map<Integer, Integer> p, List<Integer> found, int x, int y, int side, int[][] ways, int far) {
        for (int[] way : ways) {
            for (int i = 1; i <= far; i++) {
                int toX = x + i * way[0];
                int toY = y + i * way[1];
                if (!isOn(toX, toY)) {
                    break;
                }
                Integer there = p.get(toX + s.w * toY);
                if (there == null || there / 6 != side) {
                    found.add(toX + s.w * toY);
                }
                if (there != null) {
                    break;
                }
            }
        }
    }

    private boolean isOn(int x, int y) {
        return x >= 0 && x < s.w && y >= 0 && y < s.h;
    }

    private List<int[]> allMoves(Map<Integer, Integer> p, int side) {
        List<int[]> all = new ArrayList<>();
        for (Map.Entry<Integer, Integer> e : p.entrySet()) {
            if (e.getValue() / 6 == side) {
                for (int to : targets(p, e.getKey(), e.getValue())) {
                    all.add(new int[] {e.getKey(), to});
                }
            }
        }
        return all;
    }

    private boolean isIn(Map<Integer, Integer> p, int side, int from, int to) {
        return p.containsKey(from) && p.get(from) / 6 == side && targets(p, from, p.get(from)).contains(to);
    }

    private Map<Integer, Integer> after(Map<Integer, Integer> p, int from, int to) {
        Map<Integer, Integer> n = new TreeMap<>(p);
        int code = n.remove(from);
        int y = to / s.w;
        if (code == 5 && y == s.h - 1 || code == 11 && y == 0) {
            code -= 4;
        }
        n.put(to, code);
        return n;
    }

    private int gain(Map<Integer, Integer> p, int from, int to) {
        int gain = p.containsKey(to) ? VALUE[p.get(to) % 6] : 0;
        return gain + (after(p, from, to).get(to).equals(p.get(from)) ? 0 : 8);
    }

    private int worth(Map<Integer, Integer> p, int side, int from, int to) {
        int worth = gain(p, from, to);
        if (p.containsKey(to) && p.get(to) % 6 == 0) {
            return worth;
        }
        Map<Integer, Integer> n = after(p, from, to);
        int most = 0;
        for (int[] reply : allMoves(n, 1 - side)) {
            most = Math.max(most, gain(n, reply[0], reply[1]));
        }
        return worth - most;
    }

    private int part(Map<Integer, Integer> p, int side, int[] move, int what) {
        switch (what) {
            case 0: return move[0];
            case 1: return move[1];
            case 2: return gain(p, move[0], move[1]);
            default: return worth(p, side, move[0], move[1]);
        }
    }

    private static int total(Map<Integer, Integer> p) {
        int total = 0;
        for (Map.Entry<Integer, Integer> e : p.entrySet()) {
            total += (e.getKey() + 1) * (e.getValue() % 6 + 1 + (e.getValue() >= 6 ? 6 : 0));
        }
        return total;
    }

    // ---- messages

    private boolean hidden(int tick) {
        for (Map.Entry<Integer, int[]> e : s.fogs.entrySet()) {
            for (int t = e.getKey(); t < e.getKey() + e.getValue()[0]; t += e.getValue()[1]) {
                if (t == tick) {
                    return true;
                }
            }
        }
        return false;
    }

    private int hiddenOf(int tick, int ticks) {
        int n = 0;
        for (int i = 0; i < ticks; i++) {
            n += hidden(tick + i) ? 1 : 0;
        }
        return n;
    }

    private int[] groups(int from, int to) {
        int[] g = {1 + s.towers[s.toMove].count % 2, from % s.w + 1, from / s.w + 1, to % s.w + 1, to / s.w + 1, 0};
        g[5] = 1 + Arrays.stream(g).sum() % 7;
        return g;
    }

    private int[] seen(int[] g, int begin) {
        int[] seen = new int[6];
        int tick = begin;
        for (int i = 0; i < 6; i++) {
            seen[i] = g[i] - hiddenOf(tick, g[i]);
            tick += g[i] + s.pause;
        }
        return seen;
    }

    /** The tower of the receiver as it would be; the reading is left in how[0]. */
    private Tower read(int[] g, int[] how) {
        Tower t = s.towers[1 - s.toMove].copy();
        how[0] = 0;
        boolean on = isOn(g[1] - 1, g[2] - 1) && isOn(g[3] - 1, g[4] - 1);
        if (g[0] < 1 || g[0] > 2 || !on || g[5] != 1 + (g[0] + g[1] + g[2] + g[3] + g[4]) % 7) {
            return t;
        }
        int from = g[1] - 1 + s.w * (g[2] - 1);
        int to = g[3] - 1 + s.w * (g[4] - 1);
        if (g[0] - 1 == t.count % 2) {
            if (isIn(t.pieces, s.toMove, from, to)) {
                how[0] = 1;
                make(t, s.toMove, from, to);
            }
        } else if (t.count > 0 && t.latest[0] == s.toMove) {
            if (t.latest[1] == from && t.latest[2] == to) {
                how[0] = 2;
            } else if (isIn(t.earlier, s.toMove, from, to)) {
                how[0] = 3;
                t.pieces = t.earlier;
                t.count--;
                make(t, s.toMove, from, to);
            }
        }
        return t;
    }

    private void make(Tower t, int side, int from, int to) {
        t.earlier = t.pieces;
        t.pieces = after(t.pieces, from, to);
        t.count++;
        t.latest = new int[] {side, from, to};
    }

    private int playNow(int from, int to) {
        int me = s.toMove;
        if (!isIn(s.towers[me].pieces, me, from, to)) {
            return -2;
        }
        int[] g = groups(from, to);
        int flashes = Arrays.stream(g).sum();
        for (int n = 1; n <= s.tries; n++) {
            int begin = s.time + (n > 1 ? s.wait : 0);
            int[] saw = seen(g, begin);
            int[] how = new int[1];
            Tower receiver = read(saw, how);
            int answer = how[0] == 0 ? 1 : 2 + total(receiver.pieces) % 5;
            int answerAt = begin + flashes + 6 * s.pause;
            int end = answerAt + answer + s.pause;
            if (s.clocks[me] <= end - s.time) {
                s.time += s.clocks[me];
                s.clocks[me] = 0;
                s.won = 2 - me;
                return -1;
            }
            s.clocks[me] -= end - s.time;
            s.time = end;
            s.towers[1 - me] = receiver;
            int back = answer - hiddenOf(answerAt, answer);
            boolean good = back >= 2 && back == 2 + total(after(s.towers[me].pieces, from, to)) % 5;
            int sawAll = Arrays.stream(saw).sum();
            s.sent.add(new int[] {begin, me, flashes, sawAll, how[0], answer, back, good ? 1 : 0});
            if (good) {
                Integer taken = s.towers[me].pieces.get(to);
                make(s.towers[me], me, from, to);
                s.made.add(new int[] {me, from, to, taken == null ? -1 : taken % 6, n, s.time});
                if (taken != null && taken % 6 == 0) {
                    s.won = me + 1;
                }
                s.toMove = 1 - me;
                return n;
            }
        }
        return 0;
    }

    private static List<int[]> kept(List<int[]> all) {
        return all.subList(Math.max(0, all.size() - 20), all.size());
    }

    // ---- what the arguments must be

    private static void side(int n) {
        index(n, 2);
    }

    private static void index(int n, int size) {
        if (n < 0 || n >= size) {
            throw new IndexOutOfBoundsException();
        }
    }

    private static void range(int n, int least, int most) {
        if (n < least || n > most) {
            throw new IllegalArgumentException();
        }
    }

    private int cell(int x, int y) {
        if (!isOn(x, y)) {
            throw new IllegalArgumentException();
        }
        return x + s.w * y;
    }

    private void going() {
        if (s.won != 0) {
            throw new IllegalStateException();
        }
    }

    private void change() {
        undos.add(s.copy());
        if (undos.size() > 8) {
            undos.remove(0);
        }
    }

    private int print(String text) {
        output = text;
        return text.length();
    }

    private List<Integer> differing() {
        List<Integer> cells = new ArrayList<>();
        for (int i = 0; i < s.w * s.h; i++) {
            if (s.towers[0].pieces.getOrDefault(i, -1) != (int) s.towers[1].pieces.getOrDefault(i, -1)) {
                cells.add(i);
            }
        }
        return cells;
    }

    // ---- the calls

    /** Answers a call as the class has to: a number, a truth, a text of a double or a float. */
    Object call(String name, int... a) {
        switch (name) {
            case "appendInput":
                return appendInput(a);
            case "truncateInput":
                if (a[0] < 0 || a[0] > input.length()) {
                    return false;
                }
                input.setLength(a[0]);
                return true;
            case "loadGame":
                return loadGame();
            case "errorCode":
                return code;
            case "errorOffset":
                return offset;
            case "outputByte":
                return a[0] < 0 || a[0] >= output.length() ? -1 : output.charAt(a[0]);
            case "saveState":
                saved = s.copy();
                return s.time;
            case "restoreState":
                if (saved == null) {
                    throw new NoSuchElementException();
                }
                s = saved.copy();
                undos.clear();
                return s.time;
            case "undo":
                if (undos.isEmpty()) {
                    throw new NoSuchElementException();
                }
                s = undos.remove(undos.size() - 1);
                return undos.size();
            default:
                return callBoard(name, a);
        }
    }

    private int appendInput(int[] a) {
        if (input.length() + 20 > 600) {
            return -1;
        }
        for (int n : a) {
            for (int i = 3; i >= 0; i--) {
                input.append((char) (n >> 8 * i & 255));
            }
        }
        return input.length();
    }

    private int loadGame() {
        String text = input.toString();
        input = new StringBuilder();
        try {
            s = parse(text);
            saved = null;
            undos.clear();
            code = 0;
            offset = -1;
            return s.towers[0].pieces.size();
        } catch (Wrong e) {
            code = e.code;
            offset = e.at;
            return -1;
        }
    }

    private Object callBoard(String name, int[] a) {
        switch (name) {
            case "count":
                range(a[0], 0, 15);
                return new int[] {s.w, s.h, s.time, s.toMove, s.won, s.pause, s.wait, s.tries, s.fogs.size(),
                    s.towers[0].count, s.towers[1].count, s.made.size(), s.sent.size(), kept(s.sent).size(),
                    kept(s.made).size(), undos.size()}[a[0]];
            case "clock":
                side(a[0]);
                return s.clocks[a[0]];
            case "piece":
                side(a[0]);
                return s.towers[a[0]].pieces.getOrDefault(cell(a[1], a[2]), -1);
            case "isMove":
                side(a[0]);
                side(a[1]);
                cell(a[4], a[5]);
                return isIn(s.towers[a[0]].pieces, a[1], cell(a[2], a[3]), cell(a[4], a[5]));
            case "moves":
                side(a[0]);
                side(a[1]);
                return allMoves(s.towers[a[0]].pieces, a[1]).size();
            case "move":
                side(a[0]);
                side(a[1]);
                index(a[2], allMoves(s.towers[a[0]].pieces, a[1]).size());
                range(a[3], 0, 3);
                return part(s.towers[a[0]].pieces, a[1], allMoves(s.towers[a[0]].pieces, a[1]).get(a[2]), a[3]);
            case "ranked":
                return ranked(a[0], a[1]);
            case "attackers":
                side(a[0]);
                side(a[1]);
                return attackers(s.towers[a[0]].pieces, a[1], cell(a[2], a[3]));
            case "isInCheck":
                side(a[0]);
                side(a[1]);
                return allMoves(s.towers[a[0]].pieces, 1 - a[1]).stream()
                    .anyMatch(m -> s.towers[a[0]].pieces.getOrDefault(m[1], -1) == 6 * a[1]);
            case "material":
                side(a[0]);
                side(a[1]);
                return s.towers[a[0]].pieces.values().stream().filter(c -> c / 6 == a[1]).mapToInt(c -> VALUE[c % 6])
                    .sum();
            case "sum":
                side(a[0]);
                return total(s.towers[a[0]].pieces);
            case "differ":
                range(a[0], 0, 1);
                return a[0] == 0 ? differing().size() : differing().isEmpty() ? -1 : differing().get(0);
            case "fewestMoves":
                side(a[0]);
                return fewest(s.towers[a[0]].pieces, cell(a[1], a[2]), cell(a[3], a[4]));
            default:
                return callFog(name, a);
        }
    }

    private int ranked(int rank, int what) {
        Map<Integer, Integer> p = s.towers[s.toMove].pieces;
        List<int[]> all = allMoves(p, s.toMove);
        index(rank, all.size());
        range(what, 0, 3);
        Map<int[], Integer> worths = new HashMap<>();
        all.forEach(m -> worths.put(m, worth(p, s.toMove, m[0], m[1])));
        all.sort((m, n) -> worths.get(n) - worths.get(m));
        return part(p, s.toMove, all.get(rank), what);
    }

    private int attackers(Map<Integer, Integer> p, int side, int cell) {
        Map<Integer, Integer> with = new TreeMap<>(p);
        with.put(cell, 6 * (1 - side) + 1);
        return (int) allMoves(with, side).stream().filter(m -> m[1] == cell).count();
    }

    private int fewest(Map<Integer, Integer> p, int from, int to) {
        if (!p.containsKey(from)) {
            return -1;
        }
        Map<Integer, Integer> rest = new TreeMap<>(p);
        int code = rest.remove(from);
        List<Integer> reached = new ArrayList<>(List.of(from));
        for (int n = 0; n <= s.w * s.h; n++) {
            if (reached.contains(to)) {
                return n;
            }
            List<Integer> more = new ArrayList<>(reached);
            for (int cell : reached) {
                for (int next : targets(rest, cell, code)) {
                    if (next == to || !rest.containsKey(next)) {
                        more.add(next);
                    }
                }
            }
            reached = new ArrayList<>(more.stream().distinct().toList());
        }
        return -1;
    }

    private Object callFog(String name, int[] a) {
        switch (name) {
            case "isHidden":
                range(a[0], 0, 99999);
                return hidden(a[0]);
            case "hiddenTicks":
                range(a[0], 0, 99999);
                range(a[1], 0, 999);
                return hiddenOf(a[0], a[1]);
            case "clearFrom":
                range(a[0], 1, 99);
                int start = s.time;
                while (hiddenOf(start, a[0]) > 0) {
                    start++;
                }
                return start;
            case "fog":
                index(a[0], s.fogs.size());
                range(a[1], 0, 3);
                int from = new ArrayList<>(s.fogs.keySet()).get(a[0]);
                int[] rest = s.fogs.get(from);
                int hides = 0;
                for (int i = 0; i < rest[0]; i++) {
                    hides += i % rest[1] == 0 ? 1 : 0;
                }
                return new int[] {from, rest[0], rest[1], hides}[a[1]];
            case "addFog":
                range(a[0], 0, 9999);
                range(a[1], 1, 999);
                range(a[2], 1, 9);
                if (s.fogs.size() == 8 || s.fogs.containsKey(a[0])) {
                    throw new IllegalStateException();
                }
                change();
                s.fogs.put(a[0], new int[] {a[1], a[2]});
                return s.fogs.headMap(a[0]).size();
            case "dropFog":
                index(a[0], s.fogs.size());
                change();
                s.fogs.remove(new ArrayList<>(s.fogs.keySet()).get(a[0]));
                return s.fogs.size();
            default:
                return callMessage(name, a);
        }
    }

    private Object callMessage(String name, int[] a) {
        switch (name) {
            case "group":
                index(a[4], 6);
                return groups(cell(a[0], a[1]), cell(a[2], a[3]))[a[4]];
            case "seenOf":
                index(a[4], 6);
                return seen(groups(cell(a[0], a[1]), cell(a[2], a[3])), s.time)[a[4]];
            case "messageTicks":
                return Arrays.stream(groups(cell(a[0], a[1]), cell(a[2], a[3]))).sum() + 6 * s.pause;
            case "readsAs":
                int[] how = new int[1];
                read(seen(groups(cell(a[0], a[1]), cell(a[2], a[3])), s.time), how);
                return how[0];
            case "ifPlayed":
                return ifPlayed(cell(a[0], a[1]), cell(a[2], a[3]), a[4]);
            case "delay":
                return delay(cell(a[0], a[1]), cell(a[2], a[3]), a[4]);
            case "printMessage":
                return printMessage(groups(cell(a[0], a[1]), cell(a[2], a[3])));
            case "play":
                int from = cell(a[0], a[1]);
                int to = cell(a[2], a[3]);
                going();
                State before = s.copy();
                int answer = playNow(from, to);
                if (answer != -2) {
                    undos.add(before);
                    if (undos.size() > 8) {
                        undos.remove(0);
                    }
                }
                return answer;
            default:
                return callRest(name, a);
        }
    }

    private int ifPlayed(int from, int to, int what) {
        range(what, 0, 3);
        going();
        State now = s;
        s = now.copy();
        int answer = playNow(from, to);
        int[] parts = {answer, s.time - now.time, differing().size(), s.won == 0 ? 0 : 1};
        s = now;
        return parts[what];
    }

    private int delay(int from, int to, int most) {
        range(most, 0, 200);
        going();
        if (!isIn(s.towers[s.toMove].pieces, s.toMove, from, to)) {
            return -2;
        }
        State now = s;
        int found = -1;
        for (int d = 0; d <= most && found < 0; d++) {
            s = now.copy();
            if (d == 0 || thinkNow(d)) {
                found = playNow(from, to) == 1 ? d : -1;
            }
        }
        s = now;
        return found;
    }

    private boolean thinkNow(int ticks) {
        int pass = Math.min(ticks, s.clocks[s.toMove]);
        s.time += pass;
        s.clocks[s.toMove] -= pass;
        if (s.clocks[s.toMove] == 0) {
            s.won = 2 - s.toMove;
        }
        return s.won == 0;
    }

    private int printMessage(int[] g) {
        StringBuilder text = new StringBuilder();
        int tick = s.time;
        for (int n : g) {
            for (int i = 0; i < n; i++) {
                text.append(hidden(tick++) ? '.' : '*');
            }
            text.append(' ');
            tick += s.pause;
        }
        return print(text.toString().trim());
    }

    private Object callRest(String name, int[] a) {
        switch (name) {
            case "sent":
                index(a[0], kept(s.sent).size());
                range(a[1], 0, 7);
                return kept(s.sent).get(a[0])[a[1]];
            case "made":
                index(a[0], kept(s.made).size());
                range(a[1], 0, 5);
                return kept(s.made).get(a[0])[a[1]];
            case "meanTries":
                return s.made.isEmpty() ? 0.0
                    : (double) kept(s.made).stream().mapToInt(m -> m[4]).sum() / (double) kept(s.made).size();
            case "hiddenShare":
                int unseen = kept(s.sent).stream().mapToInt(m -> m[2] - m[3] + m[5] - m[6]).sum();
                int all = kept(s.sent).stream().mapToInt(m -> m[2] + m[5]).sum();
                return s.sent.isEmpty() ? 0.0f : (float) unseen / (float) all;
            case "think":
                range(a[0], 1, 999);
                going();
                change();
                thinkNow(a[0]);
                return s.clocks[s.toMove];
            case "resign":
                going();
                change();
                s.won = 2 - s.toMove;
                return 1 - s.toMove;
            case "settle":
                side(a[0]);
                change();
                int differed = differing().size();
                s.towers[1 - a[0]] = s.towers[a[0]].copy();
                return differed;
            case "wind":
                side(a[0]);
                range(a[1], 1, 999);
                if (s.clocks[a[0]] + a[1] > 9999) {
                    throw new IllegalStateException();
                }
                change();
                s.clocks[a[0]] += a[1];
                return s.clocks[a[0]];
            case "set":
                return set(a[0], a[1]);
            case "printRow":
                side(a[0]);
                range(a[1], 0, s.h - 1);
                StringBuilder row = new StringBuilder();
                for (int x = 0; x < s.w; x++) {
                    row.append(".KQRBNPkqrbnp".charAt(1 + s.towers[a[0]].pieces.getOrDefault(x + s.w * a[1], -1)));
                }
                return print(row.toString());
            case "printMoves":
                return printMoves();
            default:
                throw new AssertionError(name);
        }
    }

    private int set(int what, int value) {
        range(what, 5, 7);
        range(value, what == 6 ? 0 : 1, what == 5 ? 5 : 9);
        change();
        int before;
        if (what == 5) {
            before = s.pause;
            s.pause = value;
        } else if (what == 6) {
            before = s.wait;
            s.wait = value;
        } else {
            before = s.tries;
            s.tries = value;
        }
        return before;
    }

    private int printMoves() {
        List<String> words = new ArrayList<>();
        for (int[] m : kept(s.made)) {
            words.add(name(m[1]) + (m[3] < 0 ? "-" : "x") + name(m[2]) + "?".repeat(m[4] - 1));
        }
        return print(words.isEmpty() ? "." : String.join(" ", words));
    }

    private String name(int cell) {
        return "abcdefgh".charAt(cell % s.w) + "" + (cell / s.w + 1);
    }

    // ---- for the choice of calls

    int width() {
        return s.w;
    }

    int height() {
        return s.h;
    }

    int time() {
        return s.time;
    }

    List<int[]> movesNow() {
        return allMoves(s.towers[s.toMove].pieces, s.toMove);
    }
}
