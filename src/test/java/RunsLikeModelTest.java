import java.lang.reflect.InvocationTargetException;
import java.lang.reflect.Method;
import java.util.ArrayList;
import java.util.Arrays;
import java.util.HashMap;
import java.util.List;
import java.util.Map;
import java.util.Random;

/** Runs of calls drawn with fixed seeds: the class answers each one as the plain model does. */
public final class RunsLikeModelTest {
    private static final Map<String, Method> METHODS = new HashMap<>();
    private static final String[] QUESTIONS = {"errorCode", "errorOffset", "count", "clock", "piece", "isMove", "moves",
        "move", "ranked", "attackers", "isInCheck", "material", "sum", "differ", "fewestMoves", "isHidden",
        "hiddenTicks", "clearFrom", "fog", "group", "seenOf", "messageTicks", "readsAs", "ifPlayed", "delay", "sent",
        "made", "meanTries", "hiddenShare", "printRow", "printMessage", "printMoves", "outputByte", "saveState"};
    private static final String[] CHANGES = {"play", "play", "play", "play", "play", "play", "play", "play", "think",
        "settle", "wind", "addFog", "addFog", "addFog", "dropFog", "set", "undo"};
    private static final String[] KINDS = {"queen", "rook", "bishop", "knight", "pawn", "pawn", "pawn"};
    private static final int[] ODD = {Integer.MIN_VALUE, -2, -1, 0, 1, 2, 8, 9, 99, 100, 999, 1000, 9999, 10000,
        99999, 100000, Integer.MAX_VALUE};

    private final Random random;
    private final int run;
    private final LanternChess chess = new LanternChess();
    private final Model model = new Model();
    private final Map<String, Integer> tally;
    private int calls = 0;
    private int[] givenUp = null;
    private boolean differs = false;

    private RunsLikeModelTest(int run, Map<String, Integer> tally) {
        this.run = run;
        this.tally = tally;
        random = new Random(run);
    }

    public static void main(String[] args) {
        int runs = args.length > 0 ? Integer.parseInt(args[0]) : 600;
        for (Method m : LanternChess.class.getDeclaredMethods()) {
            if (java.lang.reflect.Modifier.isPublic(m.getModifiers())) {
                METHODS.put(m.getName(), m);
            }
        }
        Map<String, Integer> tally = new HashMap<>();
        for (int run = 0; run < runs; run++) {
            new RunsLikeModelTest(run, tally).play();
        }
        for (String event : List.of("play 0", "play 1", "play 2", "play 3", "play -1", "play -2", "readsAs 0",
            "readsAs 1", "readsAs 2", "readsAs 3", "errorCode 1", "errorCode 2", "errorCode 3", "errorCode 4",
            "errorCode 5", "sent 2", "sent 3")) {
            Checks.due("that there were runs with " + event, tally.getOrDefault(event, 0) > 0, true);
        }
        if (args.length > 1) {
            new java.util.TreeMap<>(tally).forEach((event, times) -> System.out.println(event + ": " + times));
        }
        Checks.end("RunsLikeModelTest");
    }

    private void play() {
        if (random.nextInt(8) > 0) {
            load();
        }
        while (calls < 500 && !differs) {
            int dice = random.nextInt(100);
            if (dice < 40) {
                change(CHANGES[random.nextInt(CHANGES.length)]);
            } else if (dice < 97) {
                ask(QUESTIONS[random.nextInt(QUESTIONS.length)]);
            } else if (dice < 98) {
                load();
            } else if (random.nextInt(4) == 0) {
                call("resign");
            } else {
                call(random.nextInt(3) == 0 ? "restoreState" : "undo");
            }
            compareLatest();
        }
    }

    private void compareLatest() {
        for (int what : new int[] {2, 3, 4, 9, 10, 12, 15}) {
            if (!differs) {
                call("count", what);
            }
        }
        if (!differs) {
            call("differ", random.nextInt(2));
        }
    }

    // ---- the choice of calls

    private int upTo(int least, int most) {
        return random.nextInt(25) == 0 ? ODD[random.nextInt(ODD.length)] : least + random.nextInt(most - least + 1);
    }

    private int[] cells() {
        List<int[]> moves = model.movesNow();
        int w = model.width();
        if (!moves.isEmpty() && random.nextInt(5) > 0) {
            int[] move = moves.get(random.nextInt(moves.size()));
            return new int[] {move[0] % w, move[0] / w, move[1] % w, move[1] / w};
        }
        int x = upTo(0, w - 1);
        int y = upTo(0, model.height() - 1);
        return new int[] {x, y, upTo(0, w - 1), upTo(0, model.height() - 1)};
    }

    private static int[] join(int[] first, int... more) {
        int[] all = Arrays.copyOf(first, first.length + more.length);
        System.arraycopy(more, 0, all, first.length, more.length);
        return all;
    }

    private void change(String name) {
        switch (name) {
            case "play":
                playSome();
                break;
            case "think":
                call(name, upTo(1, 20));
                break;
            case "settle":
                call(name, upTo(0, 1));
                break;
            case "wind":
                call(name, upTo(0, 1), upTo(1, 400));
                break;
            case "addFog":
                call(name, Math.max(upTo(0, 30) + model.time(), -1), upTo(1, 12), upTo(1, 9));
                break;
            case "dropFog":
                call(name, upTo(0, 3));
                break;
            case "set":
                call(name, upTo(5, 7), upTo(0, 9));
                break;
            default:
                call(name);
        }
    }

    /** Plays a move, and asks ahead of that what would come. */
    private void playSome() {
        int[] cells = givenUp != null && random.nextInt(3) > 0 ? givenUp : cells();
        if (random.nextInt(2) == 0) {
            call("readsAs", cells);
            call("ifPlayed", join(cells, upTo(0, 3)));
        }
        Object answer = call("play", cells);
        givenUp = answer.equals(0) ? cells : null;
        if (answer instanceof Integer) {
            int kept = (Integer) ask("count", 13);
            for (int i = Math.max(0, kept - 3); i < kept && !differs; i++) {
                ask("sent", i, 4);
                ask("sent", i, 6);
            }
        }
    }

    private Object ask(String name, int... fixed) {
        return fixed.length > 0 ? call(name, fixed) : call(name, argumentsOf(name));
    }

    private int[] argumentsOf(String name) {
        switch (name) {
            case "count": return new int[] {upTo(0, 15)};
            case "clock": case "sum": case "differ": return new int[] {upTo(0, 1)};
            case "piece": return new int[] {upTo(0, 1), upTo(0, 7), upTo(0, 7)};
            case "isMove": return join(new int[] {upTo(0, 1), upTo(0, 1)}, cells());
            case "moves": case "isInCheck": case "material": return new int[] {upTo(0, 1), upTo(0, 1)};
            case "move": return new int[] {upTo(0, 1), upTo(0, 1), upTo(0, 30), upTo(0, 3)};
            case "ranked": return new int[] {upTo(0, 30), upTo(0, 3)};
            case "attackers": return new int[] {upTo(0, 1), upTo(0, 1), upTo(0, 5), upTo(0, 5)};
            case "fewestMoves": {
                int[] cells = cells();
                return new int[] {upTo(0, 1), cells[0], cells[1], upTo(0, 5), upTo(0, 5)};
            }
            case "isHidden": return new int[] {upTo(0, 60) + model.time() - 20};
            case "hiddenTicks": return new int[] {upTo(0, 40) + model.time() - 20, upTo(0, 99)};
            case "clearFrom": return new int[] {upTo(1, 30)};
            case "fog": return new int[] {upTo(0, 4), upTo(0, 3)};
            case "group": case "seenOf": return join(cells(), upTo(0, 5));
            case "messageTicks": case "readsAs": case "printMessage": return cells();
            case "ifPlayed": return join(cells(), upTo(0, 3));
            case "delay": return join(cells(), upTo(0, 60));
            case "sent": return new int[] {upTo(0, 19), upTo(0, 7)};
            case "made": return new int[] {upTo(0, 19), upTo(0, 5)};
            case "printRow": return new int[] {upTo(0, 1), upTo(0, 7)};
            case "outputByte": return new int[] {upTo(0, 30)};
            default: return new int[0];
        }
    }

    // ---- setup texts

    private void load() {
        String text = random.nextInt(3) == 0 ? spoiled(text()) : text();
        byte[] bytes = text.getBytes(java.nio.charset.StandardCharsets.ISO_8859_1);
        for (int i = 0; i < bytes.length; i += 20) {
            int[] words = new int[5];
            for (int j = 0; j < 20; j++) {
                words[j / 4] = words[j / 4] << 8 | (i + j < bytes.length ? bytes[i + j] & 255 : ' ');
            }
            call("appendInput", words);
        }
        if (random.nextInt(2) == 0) {
            call("truncateInput", upTo(bytes.length, bytes.length));
        }
        call("loadGame");
        call("errorCode");
        call("errorOffset");
    }

    private String text() {
        int w = 4 + random.nextInt(5);
        int h = 4 + random.nextInt(5);
        List<String> statements = new ArrayList<>();
        List<Integer> cells = new ArrayList<>();
        for (int i = 0; i < w * h; i++) {
            cells.add(i);
        }
        java.util.Collections.shuffle(cells, random);
        int pieces = random.nextInt(6) == 0 ? 34 : 2 + random.nextInt(12);
        for (int i = 0; i < pieces && i < cells.size(); i++) {
            String kind = i < 2 ? "king" : KINDS[random.nextInt(KINDS.length)];
            String side = i % 2 == 0 ? "white" : "black";
            statements.add(side + " " + kind + " " + cells.get(i) % w + " " + cells.get(i) / w + ";");
        }
        addSettings(statements);
        java.util.Collections.shuffle(statements, random);
        return "game " + w + " " + h + ";" + String.join(random.nextInt(4) == 0 ? "\n " : "", statements);
    }

    private void addSettings(List<String> statements) {
        if (random.nextInt(3) == 0) {
            statements.add("clock " + (1 + random.nextInt(300)) + " " + (1 + random.nextInt(300)) + ";");
        }
        if (random.nextInt(2) == 0) {
            statements.add("pause " + (1 + random.nextInt(5)) + ";");
        }
        if (random.nextInt(2) == 0) {
            statements.add("wait " + random.nextInt(10) + ";");
        }
        if (random.nextInt(2) == 0) {
            statements.add("tries " + (1 + random.nextInt(9)) + ";");
        }
        int fogs = random.nextInt(10) == 0 ? 10 : random.nextInt(4);
        for (int i = 0; i < fogs; i++) {
            statements.add("fog " + random.nextInt(200) + " " + (1 + random.nextInt(40)) + " "
                + (1 + random.nextInt(9)) + ";");
        }
    }

    /** A text with some bytes left out, put in or changed. */
    private String spoiled(String text) {
        StringBuilder t = new StringBuilder(text);
        String signs = "0123456789 ;\nagkw\u00ffX-";
        for (int i = random.nextInt(3); i >= 0; i--) {
            int at = random.nextInt(Math.max(1, t.length()));
            switch (random.nextInt(4)) {
                case 0:
                    t.deleteCharAt(at);
                    break;
                case 1:
                    t.insert(at, signs.charAt(random.nextInt(signs.length())));
                    break;
                case 2:
                    t.setCharAt(at, signs.charAt(random.nextInt(signs.length())));
                    break;
                default:
                    t.setLength(Math.max(3, at));
            }
        }
        return t.toString();
    }

    // ---- the comparison

    private Object call(String name, int... a) {
        Object want;
        try {
            want = model.call(name, a);
        } catch (RuntimeException e) {
            want = e.getClass().getSimpleName();
        }
        if (want instanceof Character) {
            want = (int) (Character) want;
        }
        Object got = real(name, a);
        calls++;
        String shown = name + Arrays.toString(a);
        Checks.due("run " + run + ", call " + calls + ", " + shown, got, want);
        differs = differs || !want.equals(got);
        String event = name + (name.equals("sent") && a[1] != 4 ? " other part " : " ") + got;
        tally.merge(event, 1, Integer::sum);
        return got;
    }

    private Object real(String name, int[] a) {
        Object[] boxed = Arrays.stream(a).boxed().toArray();
        try {
            return METHODS.get(name).invoke(chess, boxed);
        } catch (InvocationTargetException e) {
            return e.getCause().getClass().getSimpleName();
        } catch (IllegalAccessException e) {
            throw new AssertionError(e);
        }
    }
}
