import java.util.NoSuchElementException;

/** Promises 1 to 6: a new object, the input buffer, setup texts and their errors. */
public final class SetupTest {
    private static final String NEW = "5 5 0 0 0 2 3 4 0 0 0 0 0 0 0 0 1000 1000"
        + " R.K.. ..... ..... ..... ..k.r R.K.. ..... ..... ..... ..k.r";
    private static final String KINGS = "game 5 5;white king 0 0;black king 1 1;";

    private SetupTest() {
    }

    public static void main(String[] args) {
        newObject();
        appendInput();
        truncateInput();
        loadGame();
        loadReplacesAll();
        errorChangesNothing();
        errorsOfHead();
        errorsOfSettings();
        errorsOfPieces();
        errorsOfFogs();
        errorsOfTokens();
        Checks.end("SetupTest");
    }

    private static void newObject() {
        LanternChess chess = new LanternChess();
        Checks.due("a new object", Checks.state(chess), NEW);
        Checks.due("errorCode of a new object", chess.errorCode(), 0);
        Checks.due("errorOffset of a new object", chess.errorOffset(), LanternChess.NONE);
        Checks.due("the input of a new object is empty", chess.truncateInput(1), false);
        Checks.due("the output of a new object is empty", chess.outputByte(0), LanternChess.NONE);
        Checks.dueThrow("undo of a new object", NoSuchElementException.class, chess::undo);
        Checks.dueThrow("restoreState of a new object", NoSuchElementException.class, chess::restoreState);
        Checks.due("NONE", LanternChess.NONE, -1);
        Checks.due("CANNOT", LanternChess.CANNOT, -2);
    }

    private static void appendInput() {
        LanternChess chess = new LanternChess();
        for (int i = 1; i <= 30; i++) {
            Checks.due("appendInput " + i, chess.appendInput(0, 0, 0, 0, 0), 20 * i);
        }
        Checks.due("appendInput to a full buffer", chess.appendInput(0, 0, 0, 0, 0), LanternChess.NONE);
        Checks.due("a full buffer stays so long", chess.truncateInput(600), true);
        chess.truncateInput(581);
        Checks.due("appendInput beyond 600", chess.appendInput(0, 0, 0, 0, 0), LanternChess.NONE);
        chess.truncateInput(580);
        Checks.due("appendInput up to 600", chess.appendInput(0, 0, 0, 0, 0), 600);
        LanternChess typed = new LanternChess();
        // "game" " 4 4" ";pau" "se 3" ";"
        typed.appendInput(0x67616d65, 0x20342034, 0x3b706175, 0x73652033, 0x3b0a0a0a);
        Checks.due("bytes in their order, no king", typed.loadGame(), LanternChess.NONE);
        Checks.due("bytes in their order, code", typed.errorCode(), 5);
        Checks.due("bytes in their order, offset", typed.errorOffset(), 20);
        typed.appendInput(0x67616d65, 0x20342034, 0x3b706175, 0x73652039, 0x3b0a0a0a);
        typed.loadGame();
        Checks.due("the most significant byte first", typed.errorOffset(), 15);
    }

    private static void truncateInput() {
        LanternChess chess = new LanternChess();
        chess.appendInput(0, 0, 0, 0, 0);
        Checks.due("truncateInput(21) of 20", chess.truncateInput(21), false);
        Checks.due("truncateInput(-1) of 20", chess.truncateInput(-1), false);
        Checks.due("truncateInput(20) of 20", chess.truncateInput(20), true);
        Checks.due("truncateInput(7) of 20", chess.truncateInput(7), true);
        Checks.due("truncateInput(8) of 7", chess.truncateInput(8), false);
        Checks.due("appendInput to 7", chess.appendInput(0, 0, 0, 0, 0), 27);
        Checks.due("truncateInput(0)", chess.truncateInput(0), true);
        Checks.due("truncateInput(1) of 0", chess.truncateInput(1), false);
    }

    private static void loadGame() {
        LanternChess chess = new LanternChess();
        String text = "game 4 6;\nclock 9999 1; pause 5; wait 0; tries 9;\n fog 7 2 1; fog 3 999 9;"
            + "white king 0 0; black king 3 5; white pawn 1 5; black pawn 2 0; black knight 3 0;";
        Checks.due("loadGame returns the pieces", Checks.load(chess, text), 5);
        String row = " K.pn .... .... .... .... .P.k";
        Checks.due("the loaded game", Checks.state(chess),
            "4 6 0 0 0 5 0 9 2 0 0 0 0 0 0 0 9999 1" + row + row + " fog 3/999/9 fog 7/2/1");
        Checks.due("loadGame empties the input", chess.truncateInput(1), false);
        Checks.due("errorCode without an error", chess.errorCode(), 0);
        Checks.due("errorOffset without an error", chess.errorOffset(), LanternChess.NONE);
        Checks.due("tokens without spaces", Checks.load(chess, "game5 5;white king0 0;black king1 1;"), 2);
        Checks.due("without settings", Checks.state(chess).substring(0, 41),
            "5 5 0 0 0 2 3 4 0 0 0 0 0 0 0 0 1000 1000");
        StringBuilder all = new StringBuilder("game 8 8;");
        for (int i = 0; i < 32; i++) {
            String kind = i == 0 ? "white king" : i == 31 ? "black king" : "white rook";
            all.append(kind).append(' ').append(i % 8).append(' ').append(i / 8).append(';');
        }
        Checks.due("32 pieces", Checks.load(chess, all.toString()), 32);
    }

    private static void loadReplacesAll() {
        LanternChess chess = new LanternChess();
        chess.addFog(900, 5, 5);
        chess.play(0, 0, 0, 1);
        chess.saveState();
        chess.printRow(0, 0);
        Checks.load(chess, "game 5 5;white king 2 0;white rook 0 0;black king 2 4;black rook 4 4;");
        Checks.due("loadGame replaces everything", Checks.state(chess), NEW);
        Checks.due("loadGame leaves the output", Checks.output(chess), "..K..");
        LanternChess foreseen = Checks.game("game 4 4;white king 0 0;black king 1 1;fog 900 1 1;");
        Checks.due("what was foretold ahead of loadGame", foreseen.ifPlayed(0, 0, 1, 1, 3), 1);
        Checks.load(foreseen, "game 5 5;white king 2 0;white rook 0 0;black king 2 4;black rook 4 4;");
        Checks.due("it is gone behind loadGame", Checks.state(foreseen), NEW);
        Checks.dueThrow("undo behind loadGame", NoSuchElementException.class, chess::undo);
        Checks.dueThrow("restoreState behind loadGame", NoSuchElementException.class, chess::restoreState);
    }

    private static void errorChangesNothing() {
        LanternChess chess = new LanternChess();
        chess.play(0, 0, 0, 1);
        chess.saveState();
        chess.printRow(0, 0);
        String before = Checks.state(chess);
        Checks.type(chess, "game 5 5;white king 0 0;clock 5 5;");
        Checks.due("loadGame with an error", chess.loadGame(), LanternChess.NONE);
        Checks.due("errorCode", chess.errorCode(), 5);
        Checks.due("the buffer is empty behind an error", chess.truncateInput(1), false);
        Checks.due("an error changes nothing", Checks.state(chess), before);
        Checks.due("an error leaves the output", Checks.output(chess), "..K..");
        Checks.due("an error leaves the changes", chess.undo(), 0);
        Checks.due("an error leaves the saved state", chess.restoreState(), chess.count(2));
        Checks.due("the saved state is back", Checks.state(chess).contains("..K.."), true);
        Checks.load(chess, KINGS);
        Checks.due("the error goes", chess.errorCode() + " " + chess.errorOffset(), "0 -1");
    }

    private static void error(String text, int code, int offset) {
        LanternChess chess = new LanternChess();
        Checks.due("loadGame of " + text, Checks.load(chess, text), LanternChess.NONE);
        Checks.due("the error of " + text, chess.errorCode() + " at " + chess.errorOffset(), code + " at " + offset);
    }

    private static void errorsOfHead() {
        error("", 1, 0);
        error("  \n ", 1, 4);
        error("game", 1, 4);
        error("game ", 1, 5);
        error(" gama 5 5;", 1, 1);
        error("Game 5 5;", 1, 0);
        error("games 5 5;", 1, 0);
        error("game5 5", 1, 7);
        error("game 5 5 ", 1, 9);
        error("game 5;", 1, 6);
        error("game 5 5 5;", 1, 9);
        error("game 3 5;", 2, 5);
        error("game 9 5;", 2, 5);
        error("game 5 3;", 2, 7);
        error("game 5 9;", 2, 7);
        error("game 4 8;", 5, 9);
        error("game 8 4;\n", 5, 10);
        error("game 0005 5;", 5, 12);
        error("game 00005 5;", 1, 5);
    }

    private static void errorsOfSettings() {
        error("game 5 5;bause 1;", 1, 9);
        error("game 5 5;clock 0 5;", 2, 15);
        error("game 5 5;clock 1 0;", 2, 17);
        error("game 5 5;clock 9999 10000;", 1, 20);
        error("game 5 5;clock 9999 9999;", 5, 25);
        error("game 5 5;clock 5;", 1, 16);
        error("game 5 5;pause 0;", 2, 15);
        error("game 5 5;pause 6;", 2, 15);
        error("game 5 5;wait 10;", 2, 14);
        error("game 5 5;wait 9;", 5, 16);
        error("game 5 5;tries 0;", 2, 15);
        error("game 5 5;tries 10;", 2, 15);
        error("game 5 5;pause 9;tries 0;", 2, 15);
        error("game 5 5;clock 1 1;clock 1 1;", 3, 19);
        error("game 5 5;pause 1;pause 0;", 3, 17);
        error("game 5 5;wait 1;wait", 3, 16);
        error("game 5 5;tries 1;wait 2;tries 1;", 3, 24);
    }

    private static void errorsOfPieces() {
        error("game 5 5;white king 5 0;", 2, 20);
        error("game 5 5;white king 0 5;", 2, 22);
        error("game 6 5;white king 5 5;", 2, 22);
        error("game 5 5;white king 0 99999;", 1, 22);
        error("game 5 5;white king 0 0;white king 1 1;", 3, 30);
        error("game 5 5;black king 0 0;black king 9 9;", 3, 30);
        error("game 5 5;white king 0 0;black king 0 0;", 3, 37);
        error("game 5 5;white bishob 0 0;", 1, 15);
        error("game 5 5;white 0 0;", 1, 15);
        error("game 5 5;white white king 0 0;", 1, 15);
        error("game 5 5;whiteking 0 0;", 1, 9);
        error("game 5 5;white pawnz 0 0;", 1, 15);
        error("game 5 5;white apawn 0 0;", 1, 15);
        error("game 5 5;white zawn 0 0;", 1, 15);
        error("game 5 5;white pawm 0 0;", 1, 15);
        error("game 5 5;king 0 0;", 1, 9);
        error("game 5 5;white king 0 0;", 5, 24);
        error("game 5 5;black king 0 0;  ", 5, 26);
        StringBuilder many = new StringBuilder("game 8 8;");
        for (int i = 0; i < 32; i++) {
            many.append("white pawn ").append(i % 8).append(' ').append(i / 8).append(';');
        }
        error(many.toString(), 5, 489);
        error(many + "black", 4, 489);
        error(many + "white king 0 0;", 4, 489);
        error(many + "fog 0 0 0;", 2, 495);
    }

    private static void errorsOfFogs() {
        error("game 5 5;fog 9999 999 9;", 5, 24);
        error("game 5 5;fog 10000 1 1;", 1, 13);
        error("game 5 5;fog 0 0 1;", 2, 15);
        error("game 5 5;fog 0 1000 1;", 2, 15);
        error("game 5 5;fog 0 1 0;", 2, 17);
        error("game 5 5;fog 0 1 10;", 2, 17);
        error("game 5 5;fog 5 1 1;fog 5 0 0;", 3, 23);
        StringBuilder many = new StringBuilder("game 5 5;");
        for (int i = 0; i < 8; i++) {
            many.append("fog ").append(i).append(" 1 1;");
        }
        error(many.toString(), 5, 89);
        error(many + "fog 0 1 1;", 4, 89);
    }

    private static void errorsOfTokens() {
        error("game 5 5;game 5 5;", 1, 9);
        error("game 5 5;;", 1, 9);
        error("game 5 5;7;", 1, 9);
        error(KINGS + "#", 1, 39);
        error(KINGS + "\t", 1, 39);
        error(KINGS + "\u00ff", 1, 39);
        error(KINGS + "\r", 1, 39);
        error(KINGS.substring(0, 38), 1, 38);
        error(KINGS + "pause -1;", 1, 45);
    }
}
