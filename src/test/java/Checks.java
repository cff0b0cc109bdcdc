import java.nio.charset.StandardCharsets;

/** What the tests share: checks that print what is not due, and calls that take texts. */
final class Checks {
    private static int wrong = 0;
    private static int made = 0;

    /** A call that may throw. */
    interface Call {
        Object answer();
    }

    private Checks() {
    }

    static void due(String what, Object got, Object want) {
        made++;
        if (!want.equals(got)) {
            wrong++;
            System.out.println(what + " answered " + got + ", due is " + want);
        }
    }

    static void dueThrow(String what, Class<? extends RuntimeException> want, Call call) {
        Object got;
        try {
            got = call.answer();
        } catch (RuntimeException e) {
            got = e.getClass();
        }
        due(what, got, want);
    }

    static void dueIndex(String what, Call call) {
        dueThrow(what, IndexOutOfBoundsException.class, call);
    }

    static void dueArgument(String what, Call call) {
        dueThrow(what, IllegalArgumentException.class, call);
    }

    static void dueState(String what, Call call) {
        dueThrow(what, IllegalStateException.class, call);
    }

    /** Fills the empty input buffer with just this text. */
    static void type(LanternChess chess, String text) {
        byte[] bytes = text.getBytes(StandardCharsets.ISO_8859_1);
        int padded = (bytes.length + 19) / 20 * 20;
        for (int i = 0; i < padded; i += 20) {
            int[] words = new int[5];
            for (int j = 0; j < 20; j++) {
                int sign = i + j < bytes.length ? bytes[i + j] & 255 : ' ';
                words[j / 4] = words[j / 4] << 8 | sign;
            }
            chess.appendInput(words[0], words[1], words[2], words[3], words[4]);
        }
        chess.truncateInput(bytes.length);
    }

    static int load(LanternChess chess, String text) {
        type(chess, text);
        return chess.loadGame();
    }

    static LanternChess game(String text) {
        LanternChess chess = new LanternChess();
        if (load(chess, text) == LanternChess.NONE) {
            due("the text " + text, chess.errorCode() + " at " + chess.errorOffset(), "no error");
        }
        return chess;
    }

    static String output(LanternChess chess) {
        StringBuilder text = new StringBuilder();
        for (int i = 0; chess.outputByte(i) != LanternChess.NONE; i++) {
            text.append((char) chess.outputByte(i));
        }
        return text.toString();
    }

    /** All rows of a board, the lowest one first, and what else of the game is no secret. */
    static String state(LanternChess chess) {
        StringBuilder text = new StringBuilder();
        for (int what = 0; what <= 15; what++) {
            text.append(chess.count(what)).append(' ');
        }
        text.append(chess.clock(0)).append(' ').append(chess.clock(1));
        for (int board = 0; board < 2; board++) {
            for (int y = 0; y < chess.count(1); y++) {
                text.append(' ');
                for (int x = 0; x < chess.count(0); x++) {
                    int code = chess.piece(board, x, y);
                    text.append(code < 0 ? '.' : "KQRBNPkqrbnp".charAt(code));
                }
            }
        }
        for (int i = 0; i < chess.count(8); i++) {
            text.append(" fog ").append(chess.fog(i, 0)).append('/').append(chess.fog(i, 1));
            text.append('/').append(chess.fog(i, 2));
        }
        for (int i = 0; i < chess.count(13); i++) {
            text.append(" sent ").append(chess.sent(i, 0)).append('/').append(chess.sent(i, 4));
        }
        for (int i = 0; i < chess.count(14); i++) {
            text.append(" made ").append(chess.made(i, 1)).append('/').append(chess.made(i, 2));
        }
        return text.toString();
    }

    static void end(String test) {
        System.out.println(test + ": " + made + " checks, " + wrong + " wrong");
        if (wrong > 0) {
            System.exit(1);
        }
    }
}
