import java.nio.charset.StandardCharsets;

/** What the tests share: checks that print what is not due, and calls that take texts. */
final class Checks {
    private static int wrong = 0;
    private static int made = 0;
    private static String sentence = "";
    private static int madeForSentence = 1;

    /** A call that may throw. */
    interface Call {
        Object answer();
    }

    /** A call that takes a number and may throw. */
    interface NumberCall {
        Object answer(int number);
    }

    /** A call that takes two cells and may throw. */
    interface CellsCall {
        Object answer(int x, int y, int toX, int toY);
    }

    private Checks() {
    }

    /** Begins the checks of a sentence of the document, which is told word for word. */
    static void says(String words) {
        dueForSentence();
        sentence = words;
        madeForSentence = 0;
    }

    private static void dueForSentence() {
        if (madeForSentence == 0) {
            wrong++;
            System.out.println("no check of: " + sentence);
        }
    }

    static void due(String what, Object got, Object want) {
        made++;
        madeForSentence++;
        if (!want.equals(got)) {
            wrong++;
            System.out.println(what + " answered " + got + ", due is " + want);
            if (!sentence.isEmpty()) {
                System.out.println("    the document: " + sentence);
            }
        }
    }

    static void dueThrow(String what, Class<? extends RuntimeException> want, Call call) {
        Object got;
        try {
            got = call.answer();
        } catch (RuntimeException e) {
            got = e.getClass();
        }
        due(what, got, want);
    }

    static void dueIndex(String what, Call call) {
        dueThrow(what, IndexOutOfBoundsException.class, call);
    }

    static void dueArgument(String what, Call call) {
        dueThrow(what, IllegalArgumentException.class, call);
    }

    static void dueState(String what, Call call) {
        dueThrow(what, IllegalStateException.class, call);
    }

    /** The numbers least and most are taken; those beside them and the most extreme ones are refused. */
    static void dueRange(String what, Class<? extends RuntimeException> want, int least, int most, NumberCall call) {
        dueTaken(what, least, call);
        dueTaken(what, most, call);
        for (int refused : new int[] {least - 1, most + 1, Integer.MIN_VALUE, Integer.MAX_VALUE}) {
            dueThrow(what + " with " + refused, want, () -> call.answer(refused));
        }
    }

    private static void dueTaken(String what, int number, NumberCall call) {
        String got = "taken";
        try {
            call.answer(number);
        } catch (RuntimeException e) {
            got = e.getClass().getSimpleName();
        }
        due(what + " with " + number, got, "taken");
    }

    static void dueIndexRange(String what, int least, int most, NumberCall call) {
        dueRange(what, IndexOutOfBoundsException.class, least, most, call);
    }

    static void dueArgumentRange(String what, int least, int most, NumberCall call) {
        dueRange(what, IllegalArgumentException.class, least, most, call);
    }

    /** Each of the four numbers of two cells is 0 to the edges of a board, or refused. */
    static void dueCells(String what, LanternChess chess, CellsCall call) {
        int w = chess.count(0) - 1;
        int h = chess.count(1) - 1;
        dueArgumentRange(what + ", x", 0, w, n -> call.answer(n, 0, 0, 0));
        dueArgumentRange(what + ", y", 0, h, n -> call.answer(0, n, 0, 0));
        dueArgumentRange(what + ", toX", 0, w, n -> call.answer(0, 0, n, 0));
        dueArgumentRange(what + ", toY", 0, h, n -> call.answer(0, 0, 0, n));
    }

    /** Fills the empty input buffer with just this text. */
    static void type(LanternChess chess, String text) {
        byte[] bytes = text.getBytes(StandardCharsets.ISO_8859_1);
        int padded = (bytes.length + 19) / 20 * 20;
        for (int i = 0; i < padded; i += 20) {
            int[] words = new int[5];
            for (int j = 0; j < 20; j++) {
                int sign = i + j < bytes.length ? bytes[i + j] & 255 : ' ';
                words[j / 4] = words[j / 4] << 8 | sign;
            }
            chess.appendInput(words[0], words[1], words[2], words[3], words[4]);
        }
        chess.truncateInput(bytes.length);
    }

    static int load(LanternChess chess, String text) {
        type(chess, text);
        return chess.loadGame();
    }

    static LanternChess game(String text) {
        LanternChess chess = new LanternChess();
        if (load(chess, text) == LanternChess.NONE) {
            due("the text " + text, chess.errorCode() + " at " + chess.errorOffset(), "no error");
        }
        return chess;
    }

    /** A game with fogs that hide some ticks alone. */
    static LanternChess foggy(String text, int... hidden) {
        LanternChess chess = game(text);
        for (int tick : hidden) {
            chess.addFog(tick, 1, 1);
        }
        return chess;
    }

    /** Plays a move that is told by four digits: x and y of the first cell, x and y of the last one. */
    static int play(LanternChess chess, String cells) {
        return chess.play(digit(cells, 0), digit(cells, 1), digit(cells, 2), digit(cells, 3));
    }

    /** Asks how the message of a move that is told by four digits would be read. */
    static int reads(LanternChess chess, String cells) {
        return chess.readsAs(digit(cells, 0), digit(cells, 1), digit(cells, 2), digit(cells, 3));
    }

    /** What is seen of the message of a move that is told by four digits, a digit for each group. */
    static String seen(LanternChess chess, String cells) {
        StringBuilder text = new StringBuilder();
        for (int i = 0; i < 6; i++) {
            text.append(chess.seenOf(digit(cells, 0), digit(cells, 1), digit(cells, 2), digit(cells, 3), i));
        }
        return text.toString();
    }

    static int digit(String text, int index) {
        return text.charAt(index) - '0';
    }

    static String output(LanternChess chess) {
        StringBuilder text = new StringBuilder();
        for (int i = 0; chess.outputByte(i) != LanternChess.NONE; i++) {
            text.append((char) chess.outputByte(i));
        }
        return text.toString();
    }

    /** All rows of a board, the lowest one first, and what else of the game is no secret. */
    static String state(LanternChess chess) {
        StringBuilder text = new StringBuilder();
        for (int what = 0; what <= 15; what++) {
            text.append(chess.count(what)).append(' ');
        }
        text.append(chess.clock(0)).append(' ').append(chess.clock(1));
        for (int board = 0; board < 2; board++) {
            for (int y = 0; y < chess.count(1); y++) {
                text.append(' ');
                for (int x = 0; x < chess.count(0); x++) {
                    int code = chess.piece(board, x, y);
                    text.append(code < 0 ? '.' : "KQRBNPkqrbnp".charAt(code));
                }
            }
        }
        for (int i = 0; i < chess.count(8); i++) {
            text.append(" fog ").append(chess.fog(i, 0)).append('/').append(chess.fog(i, 1));
            text.append('/').append(chess.fog(i, 2));
        }
        for (int i = 0; i < chess.count(13); i++) {
            text.append(" sent ").append(chess.sent(i, 0)).append('/').append(chess.sent(i, 4));
        }
        for (int i = 0; i < chess.count(14); i++) {
            text.append(" made ").append(chess.made(i, 1)).append('/').append(chess.made(i, 2));
        }
        return text.toString();
    }

    static void end(String test) {
        dueForSentence();
        System.out.println(test + ": " + made + " checks, " + wrong + " wrong");
        if (wrong > 0) {
            System.exit(1);
        }
    }
}
