import java.util.NoSuchElementException;

/** The boundary cases of promises 43 to 48: the output and the saved state. */
public final class EdgeOutputTest {
    private static final String PIECES = "white king 2 0;white rook 0 0;black king 2 4;black rook 4 4;";

    private EdgeOutputTest() {
    }

    public static void main(String[] args) {
        printRow();
        printRowThrows();
        printMessage();
        printMessageOfMostFlashes();
        printMessageOfBlack();
        printMoves();
        printMovesOfEdges();
        questionMarks();
        longestOutput();
        outputByte();
        outputInPlace();
        saveState();
        saveStateOfEverything();
        restoreState();
        restoreStateOfNothing();
        restoreStateOfTheBoardAhead();
        Checks.end("EdgeOutputTest");
    }

    private static void row(LanternChess chess, int board, int y, String want) {
        Checks.due("bytes of row " + y, chess.printRow(board, y), want.length());
        Checks.due("row " + y + " of board " + board, Checks.output(chess), want);
    }

    private static void printRow() {
        Checks.says("for each cell a point if it is empty, otherwise the letter of its piece, K, Q, R, B, N or P "
            + "by its kind for white, the small letter for black.");
        LanternChess wide = Checks.game("game 8 4;white king 0 0;white queen 1 0;white rook 2 0;white bishop 3 0;"
            + "white knight 4 0;white pawn 5 0;black pawn 7 0;black king 7 3;black queen 6 3;black rook 5 3;"
            + "black bishop 4 3;black knight 3 3;black pawn 2 3;white pawn 0 3;");
        row(wide, 0, 0, "KQRBNP.p");
        row(wide, 1, 3, "P.pnbrqk");
        row(wide, 0, 1, "........");
        LanternChess high = Checks.game("game 4 8;white king 0 0;black king 3 7;black pawn 2 6;");
        row(high, 0, 0, "K...");
        row(high, 1, 6, "..p.");
        row(high, 1, 7, "...k");
        LanternChess apart = Checks.game("game 5 5;tries 1;fog 28 1 1;" + PIECES);
        apart.play(2, 0, 3, 1);
        row(apart, 0, 0, "R.K..");
        row(apart, 1, 0, "R....");
    }

    private static void printRowThrows() {
        Checks.says("Throws `IllegalArgumentException` if there is no such row");
        LanternChess high = Checks.game("game 4 8;white king 0 0;black king 3 7;");
        Checks.dueArgumentRange("printRow on 4 by 8", 0, 7, n -> high.printRow(0, n));
        LanternChess wide = Checks.game("game 8 4;white king 0 0;black king 7 3;");
        Checks.dueArgumentRange("printRow on 8 by 4", 0, 3, n -> wide.printRow(1, n));
        Checks.says("Throws `IndexOutOfBoundsException` if there is no such board");
        Checks.dueIndexRange("printRow, board", 0, 1, n -> wide.printRow(n, 0));
        Checks.dueIndex("no board ahead of no row", () -> wide.printRow(2, 4));
        Checks.due("the output stays", Checks.output(wide), "K.......");
    }

    private static void message(LanternChess chess, String cells, String want) {
        int bytes = chess.printMessage(Checks.digit(cells, 0), Checks.digit(cells, 1), Checks.digit(cells, 2),
            Checks.digit(cells, 3));
        Checks.due("bytes of the message of " + cells, bytes, want.length());
        Checks.due("the message of " + cells, Checks.output(chess), want);
    }

    private static void printMessage() {
        Checks.says("for each flash an asterisk if it is seen, a point if it is hidden, with a space between two "
            + "groups.");
        message(new LanternChess(), "0004", "* * * * ***** ***");
        message(Checks.game("game 5 5;fog 0 999 1;" + PIECES), "0004", ". . . . ..... ...");
        message(Checks.game("game 5 5;fog 0 1 1;" + PIECES), "0004", ". * * * ***** ***");
        message(Checks.game("game 5 5;fog 1 2 1;fog 4 2 1;fog 17 2 1;fog 22 9 1;" + PIECES), "0004",
            "* * * * ***** ***");
        message(Checks.game("game 5 5;fog 12 1 1;fog 16 4 3;fog 21 1 1;" + PIECES), "0004", "* * * * .***. .*.");
        message(Checks.game("game 5 5;pause 5;fog 6 1 1;fog 36 1 1;" + PIECES), "0004", "* . * * ***** **.");
        message(Checks.game("game 5 5;pause 1;fog 2 1 1;fog 16 1 1;" + PIECES), "0004", "* . * * ***** **.");
        LanternChess later = Checks.game("game 5 5;fog 5 1 1;" + PIECES);
        later.think(5);
        message(later, "0004", ". * * * ***** ***");
        later.think(1);
        message(later, "0004", "* * * * ***** ***");
        later.resign();
        message(later, "1111", "* ** ** ** ** ***");
    }

    private static void printMessageOfMostFlashes() {
        Checks.says("Throws `IllegalArgumentException` if one of the cells is not on the board");
        LanternChess eight = Checks.game("game 8 8;white king 0 0;black king 7 7;");
        message(eight, "7777", "* ******** ******** ******** ******** ******");
        message(eight, "0000", "* * * * * ******");
        message(eight, "0001", "* * * * ** *******");
        message(eight, "0002", "* * * * *** *");
        LanternChess high = Checks.game("game 4 8;white king 0 0;black king 3 7;");
        Checks.dueCells("printMessage on 4 by 8", high, high::printMessage);
        LanternChess wide = Checks.game("game 8 4;white king 0 0;black king 7 3;");
        Checks.dueCells("printMessage on 8 by 4", wide, wide::printMessage);
    }

    private static void printMessageOfBlack() {
        LanternChess chess = new LanternChess();
        chess.play(0, 0, 0, 4);
        message(chess, "4443", "** ***** ***** ***** **** *");
        chess.addFog(30, 5, 2);
        message(chess, "4443", ".* .**** ***** ***** **** *");
    }

    private static void moves(LanternChess chess, String want) {
        Checks.due("bytes of the moves", chess.printMoves(), want.length());
        Checks.due("the moves", Checks.output(chess), want);
    }

    private static void printMoves() {
        Checks.says("A point without such moves.");
        LanternChess chess = new LanternChess();
        moves(chess, ".");
        chess.addFog(0, 5, 1);
        chess.set(7, 1);
        Checks.due("a move that is given up", chess.play(0, 0, 0, 4), 0);
        moves(chess, ".");
        chess.play(0, 0, 0, 4);
        moves(chess, "a1-a5");
        chess.undo();
        moves(chess, ".");
    }

    private static void printMovesOfEdges() {
        Checks.says("the letter of the column of the first cell (a for 0, and so on) and its y plus 1, a minus "
            + "sign, or the letter x if a piece was taken, and the last cell likewise");
        LanternChess eight = Checks.game("game 8 8;white king 4 4;black king 4 6;white rook 0 0;black rook 7 7;"
            + "white pawn 7 0;");
        eight.play(0, 0, 0, 7);
        eight.play(7, 7, 7, 0);
        eight.play(0, 7, 0, 6);
        eight.play(7, 0, 0, 0);
        moves(eight, "a1-a8 h8xh1 a8-a7 h1-a1");
        LanternChess wide = Checks.game("game 8 4;white king 7 3;black king 0 0;");
        wide.play(7, 3, 7, 2);
        wide.play(0, 0, 1, 1);
        moves(wide, "h4-h3 a1-b2");
        LanternChess king = Checks.game("game 4 8;white king 0 7;black king 1 6;");
        king.play(0, 7, 1, 6);
        moves(king, "a8xb7");
    }

    private static void questionMarks() {
        Checks.says("a question mark for each sending but the first one.");
        for (int times = 1; times <= 9; times++) {
            String fog = times == 1 ? "" : "fog 0 " + 27 * (times - 1) + " 1;";
            LanternChess chess = Checks.game("game 5 5;wait 0;tries 9;" + fog + PIECES);
            Checks.due("sendings", chess.play(0, 0, 0, 4), times);
            moves(chess, "a1-a5" + "?".repeat(times - 1));
        }
    }

    private static void longestOutput() {
        Checks.says("Writes the answered moves that are kept to the output, in place of what it had, the earliest "
            + "first, with a space between two");
        LanternChess chess = Checks.game("game 5 5;pause 1;wait 0;tries 9;clock 9999 9999;" + PIECES);
        StringBuilder want = new StringBuilder();
        for (int i = 0; i < 21; i++) {
            boolean isBack = i / 2 % 2 == 1;
            int x = i % 2 == 0 ? 0 : 4;
            int from = i % 2 == 0 ? isBack ? 1 : 0 : isBack ? 3 : 4;
            int to = i % 2 == 0 ? 1 - from : 7 - from;
            // A sending that is not understood takes the message, one flash and a pause.
            chess.addFog(chess.count(2), 8 * (chess.messageTicks(x, from, x, to) + 2), 1);
            Checks.due("sendings of move " + i, chess.play(x, from, x, to), 9);
            chess.dropFog(0);
            if (i > 0) {
                want.append(i > 1 ? " " : "").append(x == 0 ? 'a' : 'e').append(from + 1).append('-');
                want.append(x == 0 ? 'a' : 'e').append(to + 1).append("????????");
            }
        }
        Checks.due("the longest output", want.length(), 279);
        moves(chess, want.toString());
        Checks.due("its last byte", chess.outputByte(278) + " " + chess.outputByte(279), "63 -1");
    }

    private static void outputByte() {
        Checks.says("Returns the byte; NONE if there is no such byte.");
        LanternChess chess = new LanternChess();
        Checks.due("an empty output", chess.outputByte(0), LanternChess.NONE);
        Checks.due("ahead of an empty output", chess.outputByte(-1), LanternChess.NONE);
        chess.printRow(0, 0);
        int[] want = {'R', '.', 'K', '.', '.'};
        for (int i = 0; i < want.length; i++) {
            Checks.due("byte " + i, chess.outputByte(i), want[i]);
        }
        for (int index : new int[] {-1, 5, 6, 278, 279, 280, 600, Integer.MIN_VALUE, Integer.MAX_VALUE}) {
            Checks.due("no byte " + index, chess.outputByte(index), LanternChess.NONE);
        }
    }

    private static void outputInPlace() {
        Checks.says("Writes a row of a board to the output, in place of what it had");
        LanternChess chess = new LanternChess();
        message(chess, "0004", "* * * * ***** ***");
        row(chess, 0, 4, "..k.r");
        moves(chess, ".");
        row(chess, 1, 0, "R.K..");
        message(chess, "0002", "* * * * *** *");
        Checks.due("nothing behind it", chess.outputByte(13), LanternChess.NONE);
        chess.think(5);
        chess.undo();
        chess.saveState();
        chess.restoreState();
        Checks.due("it stays", Checks.output(chess), "* * * * *** *");
    }

    private static void saveState() {
        Checks.says("in place of an earlier saved state.");
        LanternChess chess = new LanternChess();
        Checks.due("at the time 0", chess.saveState(), 0);
        chess.think(5);
        Checks.due("at the time 5", chess.saveState(), 5);
        chess.think(5);
        Checks.due("the later one", chess.restoreState(), 5);
        chess.resign();
        Checks.due("when the game is over", chess.saveState(), 5);
        chess.undo();
        Checks.due("the game is over again", chess.restoreState() + " " + chess.count(4), "5 2");
    }

    private static void saveStateOfEverything() {
        Checks.says("Saves everything but the input buffer, the error, the output and the changes that can be "
            + "undone");
        LanternChess chess = Checks.game("game 5 5;tries 1;fog 28 1 1;" + PIECES);
        chess.play(2, 0, 3, 1);
        chess.play(2, 0, 3, 1);
        chess.saveState();
        Checks.due("the changes stay", chess.count(15), 2);
        String before = Checks.state(chess);
        double tries = chess.meanTries();
        float share = chess.hiddenShare();
        chess.play(4, 4, 4, 3);
        chess.set(5, 5);
        chess.set(6, 0);
        chess.set(7, 9);
        chess.wind(0, 9);
        chess.wind(1, 9);
        chess.addFog(999, 9, 9);
        chess.dropFog(0);
        chess.think(3);
        chess.settle(0);
        chess.resign();
        Checks.type(chess, "game");
        chess.loadGame();
        Checks.type(chess, "pause");
        chess.printRow(0, 1);
        Checks.due("restoreState", chess.restoreState(), 70);
        Checks.due("everything", Checks.state(chess), before.replaceFirst(" 2 930 1000", " 0 930 1000"));
        Checks.due("means", chess.meanTries() + " " + chess.hiddenShare(), tries + " " + share);
        Checks.due("the input buffer stays", "" + chess.truncateInput(6) + chess.truncateInput(5), "falsetrue");
        Checks.due("the error stays", chess.errorCode() + " " + chess.errorOffset(), "1 4");
        Checks.due("the output stays", Checks.output(chess), "...K.");
    }

    private static void restoreState() {
        Checks.says("Restores the saved state, which stays saved. Nothing can be undone then.");
        LanternChess chess = new LanternChess();
        chess.think(5);
        chess.saveState();
        for (int i = 0; i < 3; i++) {
            chess.think(9);
            chess.think(9);
            Checks.due("restoreState, " + i, chess.restoreState() + " " + chess.count(2), "5 5");
            Checks.due("changes that can be undone, " + i, chess.count(15), 0);
            Checks.dueThrow("undo, " + i, NoSuchElementException.class, chess::undo);
        }
        chess.think(9);
        Checks.due("a change behind it", chess.undo() + " " + chess.count(2), "0 5");
    }

    private static void restoreStateOfNothing() {
        Checks.says("Throws `NoSuchElementException` if no state is saved");
        LanternChess chess = new LanternChess();
        Checks.dueThrow("a new object", NoSuchElementException.class, chess::restoreState);
        chess.think(5);
        Checks.dueThrow("behind a change", NoSuchElementException.class, chess::restoreState);
        Checks.due("nothing is changed", chess.count(2) + " " + chess.count(15), "5 1");
        chess.saveState();
        Checks.load(chess, "game 4 4;");
        Checks.due("behind a text with an error", chess.restoreState(), 5);
        Checks.load(chess, "game 5 5;" + PIECES);
        Checks.dueThrow("behind a text without an error", NoSuchElementException.class, chess::restoreState);
        Checks.due("saved anew", chess.saveState() + " " + chess.restoreState(), "0 0");
    }

    private static void restoreStateOfTheBoardAhead() {
        LanternChess chess = Checks.game("game 5 5;tries 1;fog 28 1 1;" + PIECES);
        chess.play(2, 0, 3, 1);
        chess.saveState();
        chess.play(0, 0, 0, 4);
        chess.play(4, 4, 4, 3);
        chess.restoreState();
        Checks.due("the latest move", chess.readsAs(2, 0, 3, 1), 2);
        Checks.due("the board ahead of it", chess.readsAs(0, 0, 0, 4), 3);
        Checks.due("a move of the board behind it", chess.readsAs(0, 0, 2, 0), 0);
        Checks.load(chess, "game 4 4;white king 0 0;black king 3 3;");
        Checks.due("loadGame forgets the latest move", chess.readsAs(0, 0, 0, 1), 1);
    }
}
