import java.util.NoSuchElementException;

/** Promises 43 to 48: what is printed, and the saved state. */
public final class OutputTest {
    private OutputTest() {
    }

    public static void main(String[] args) {
        printRow();
        printMessage();
        printMoves();
        outputByte();
        saveState();
        restoreState();
        wrongArguments();
        Checks.end("OutputTest");
    }

    private static void printRow() {
        LanternChess chess = Checks.game("game 8 4;white king 0 0;white queen 1 0;white rook 2 0;white bishop 3 0;"
            + "white knight 4 0;white pawn 5 0;black king 0 3;black queen 1 3;black rook 2 3;black bishop 3 3;"
            + "black knight 4 3;black pawn 5 3;");
        Checks.due("printRow returns the bytes", chess.printRow(0, 0), 8);
        Checks.due("white's pieces", Checks.output(chess), "KQRBNP..");
        Checks.due("printRow of black's board", chess.printRow(1, 3), 8);
        Checks.due("black's pieces", Checks.output(chess), "kqrbnp..");
        chess.printRow(0, 1);
        Checks.due("an empty row", Checks.output(chess), "........");
        LanternChess apart = new LanternChess();
        apart.set(7, 1);
        apart.addFog(28, 1, 1);
        apart.play(2, 0, 3, 1);
        apart.printRow(0, 1);
        Checks.due("the sender's row", Checks.output(apart), ".....");
        apart.printRow(1, 1);
        Checks.due("the receiver's row", Checks.output(apart), "...K.");
    }

    private static void printMessage() {
        LanternChess chess = new LanternChess();
        Checks.due("printMessage returns the bytes", chess.printMessage(0, 0, 0, 4), 17);
        Checks.due("all is seen", Checks.output(chess), "* * * * ***** ***");
        chess.addFog(0, 1, 1);
        chess.addFog(1, 2, 1);
        chess.addFog(12, 9, 4);
        chess.printMessage(0, 0, 0, 4);
        Checks.due("some is hidden", Checks.output(chess), ". * * * .***. *.*");
        chess.resign();
        Checks.due("when the game is over", chess.printMessage(4, 4, 4, 4), 27);
        Checks.due("no move", Checks.output(chess), ". ***** **.** ***.* ***** *");
    }

    private static void printMoves() {
        LanternChess chess = new LanternChess();
        Checks.due("printMoves of none", chess.printMoves(), 1);
        Checks.due("no moves", Checks.output(chess), ".");
        chess.play(0, 0, 0, 4);
        Checks.due("printMoves of one", chess.printMoves(), 5);
        Checks.due("one move", Checks.output(chess), "a1-a5");
        chess.addFog(30, 60, 1);
        int times = chess.play(4, 4, 4, 2);
        Checks.due("it was sent again", times, 3);
        chess.play(0, 4, 2, 4);
        Checks.due("printMoves of three", chess.printMoves(), 19);
        Checks.due("three moves", Checks.output(chess), "a1-a5 e5-e3?? a5xc5");
        LanternChess wide = Checks.game("game 8 8;white king 0 0;black king 0 7;white rook 7 7;black rook 7 6;");
        wide.play(7, 7, 7, 6);
        wide.printMoves();
        Checks.due("the last column and row", Checks.output(wide), "h8xh7");
        LanternChess many = new LanternChess();
        for (int i = 0; i < 22; i++) {
            boolean isBack = i / 2 % 2 == 1;
            int x = i % 2 == 0 ? 0 : 4;
            int y = i % 2 == 0 ? 0 : 4;
            int next = i % 2 == 0 ? 1 : 3;
            many.play(x, isBack ? next : y, x, isBack ? y : next);
        }
        Checks.due("printMoves of 20", many.printMoves(), 119);
        Checks.due("the latest 20", Checks.output(many).substring(0, 23), "a2-a1 e4-e5 a1-a2 e5-e4");
    }

    private static void outputByte() {
        LanternChess chess = new LanternChess();
        chess.printRow(0, 0);
        Checks.due("outputByte(0)", chess.outputByte(0), (int) 'R');
        Checks.due("outputByte(4)", chess.outputByte(4), (int) '.');
        Checks.due("outputByte(5)", chess.outputByte(5), LanternChess.NONE);
        Checks.due("outputByte(-1)", chess.outputByte(-1), LanternChess.NONE);
        Checks.due("outputByte of the greatest int", chess.outputByte(Integer.MAX_VALUE), LanternChess.NONE);
        Checks.due("outputByte of the least int", chess.outputByte(Integer.MIN_VALUE), LanternChess.NONE);
        chess.printMoves();
        Checks.due("the output is in place of what it was", chess.outputByte(1), LanternChess.NONE);
    }

    private static LanternChess middle() {
        LanternChess chess = new LanternChess();
        chess.set(7, 1);
        chess.addFog(28, 1, 1);
        chess.play(2, 0, 3, 1);
        return chess;
    }

    private static void saveState() {
        LanternChess chess = new LanternChess();
        Checks.due("saveState returns the time", chess.saveState(), 0);
        chess.think(7);
        Checks.due("saveState in place of another", chess.saveState(), 7);
        Checks.due("saveState is no change", chess.count(15), 1);
        chess.think(7);
        Checks.due("the later one is restored", chess.restoreState(), 7);
    }

    private static void restoreState() {
        LanternChess chess = middle();
        String before = Checks.state(chess);
        chess.saveState();
        chess.play(2, 0, 3, 1);
        chess.dropFog(0);
        chess.play(4, 4, 4, 3);
        chess.wind(0, 5);
        chess.resign();
        Checks.type(chess, "game");
        chess.printRow(0, 0);
        Checks.due("restoreState returns the time", chess.restoreState(), 35);
        String noChanges = before.replaceFirst(" 3 965 1000", " 0 965 1000");
        Checks.due("the restored state", Checks.state(chess), noChanges);
        Checks.due("the latest move and the board ahead of it", chess.readsAs(2, 0, 3, 1), 2);
        Checks.due("another one", chess.readsAs(0, 0, 0, 4), 3);
        Checks.dueThrow("undo behind restoreState", NoSuchElementException.class, chess::undo);
        Checks.due("restoreState leaves the input", chess.truncateInput(4), true);
        Checks.due("restoreState leaves the output", Checks.output(chess), "R....");
        chess.loadGame();
        chess.think(9);
        Checks.due("it stays saved", chess.restoreState(), 35);
        Checks.due("the state once more", Checks.state(chess), noChanges);
        Checks.due("restoreState leaves the error", chess.errorCode() + " " + chess.errorOffset(), "1 4");
    }

    private static void wrongArguments() {
        LanternChess chess = new LanternChess();
        chess.printRow(0, 0);
        Checks.dueIndex("printRow(2, 9)", () -> chess.printRow(2, 9));
        Checks.dueIndex("printRow(-1, 0)", () -> chess.printRow(-1, 0));
        Checks.dueArgument("printRow(0, 5)", () -> chess.printRow(0, 5));
        Checks.dueArgument("printRow(0, -1)", () -> chess.printRow(0, -1));
        Checks.dueArgument("printMessage(0, 0, 5, 0)", () -> chess.printMessage(0, 0, 5, 0));
        Checks.dueArgument("printMessage(0, 5, 0, 0)", () -> chess.printMessage(0, 5, 0, 0));
        Checks.dueThrow("restoreState", NoSuchElementException.class, chess::restoreState);
        Checks.due("calls that throw leave the output", Checks.output(chess), "R.K..");
    }
}
