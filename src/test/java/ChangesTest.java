import java.util.NoSuchElementException;

/** Promises 34 to 38, 41 and 42: moves that are played, clocks, the referee, undo. */
public final class ChangesTest {
    private static final String PIECES = "white king 2 0;white rook 0 0;black king 2 4;black rook 4 4;";

    private ChangesTest() {
    }

    public static void main(String[] args) {
        playAnswered();
        playAgain();
        playGivenUp();
        playOutOfTime();
        playToWin();
        playToQueen();
        playCannot();
        misread();
        think();
        resign();
        settle();
        settleKeepsTheLatestMove();
        wind();
        set();
        undoOfEach();
        undoOfEight();
        refusedChanges();
        gameOver();
        wrongArguments();
        Checks.end("ChangesTest");
    }

    private static LanternChess givenUp() {
        LanternChess chess = new LanternChess();
        chess.set(7, 1);
        chess.addFog(28, 1, 1);
        Checks.due("the answer is hidden", chess.play(2, 0, 3, 1), 0);
        return chess;
    }

    private static void playAnswered() {
        LanternChess chess = new LanternChess();
        Checks.due("play", chess.play(0, 0, 0, 4), 1);
        Checks.due("behind play", Checks.state(chess), "5 5 30 1 0 2 3 4 0 1 1 1 1 1 1 1 970 1000"
            + " ..K.. ..... ..... ..... R.k.r ..K.. ..... ..... ..... R.k.r sent 0/1 made 0/20");
    }

    private static void playAgain() {
        LanternChess chess = new LanternChess();
        chess.addFog(28, 1, 1);
        Checks.due("play with a hidden answer", chess.play(2, 0, 3, 1), 2);
        Checks.due("behind it", Checks.state(chess), "5 5 73 1 0 2 3 4 1 1 1 1 2 2 1 2 927 1000"
            + " R.... ...K. ..... ..... ..k.r R.... ...K. ..... ..... ..k.r fog 28/1/1 sent 0/1 sent 38/2 made 2/8");
        LanternChess other = new LanternChess();
        other.addFog(11, 1, 1);
        other.addFog(21, 1, 1);
        Checks.due("play that is misread", other.play(2, 0, 3, 1), 2);
        Checks.due("it is put right", other.sent(0, 4) + " " + other.sent(1, 4) + " " + other.differ(0), "1 3 0");
    }

    private static void playGivenUp() {
        LanternChess chess = givenUp();
        Checks.due("behind a move that is given up", Checks.state(chess), "5 5 35 0 0 2 3 1 1 0 1 0 1 1 0 3 965 1000"
            + " R.K.. ..... ..... ..... ..k.r R.... ...K. ..... ..... ..k.r fog 28/1/1 sent 0/1");
        LanternChess dark = new LanternChess();
        dark.addFog(0, 999, 1);
        Checks.due("play in the dark", dark.play(0, 0, 0, 4), 0);
        // 4 sendings of 24 + 1 + 2 ticks, 3 times WAIT
        Checks.due("the time behind it", dark.count(2), 117);
        Checks.due("no WAIT behind the last one", dark.sent(3, 0), 90);
        Checks.due("it is white's turn still", dark.count(3), 0);
    }

    private static void playOutOfTime() {
        LanternChess chess = Checks.game("game 5 5;clock 30 7;" + PIECES);
        Checks.due("the clock is not greater", chess.play(0, 0, 0, 4), LanternChess.NONE);
        Checks.due("behind it", Checks.state(chess), "5 5 30 0 2 2 3 4 0 0 0 0 0 0 0 1 0 7"
            + " R.K.. ..... ..... ..... ..k.r R.K.. ..... ..... ..... ..k.r");
        Checks.due("undo", chess.undo() + " " + chess.clock(0) + " " + chess.count(4), "0 30 0");
        LanternChess just = Checks.game("game 5 5;clock 31 7;" + PIECES);
        Checks.due("the clock is greater", just.play(0, 0, 0, 4), 1);
        Checks.due("one tick is left", just.clock(0), 1);
        LanternChess second = Checks.game("game 5 5;clock 73 7;fog 28 1 1;" + PIECES);
        Checks.due("the second sending is too long", second.play(2, 0, 3, 1), LanternChess.NONE);
        Checks.due("behind the second one", Checks.state(second), "5 5 73 0 2 2 3 4 1 0 1 0 1 1 0 1 0 7"
            + " R.K.. ..... ..... ..... ..k.r R.... ...K. ..... ..... ..k.r fog 28/1/1 sent 0/1");
        LanternChess longer = Checks.game("game 5 5;clock 74 7;fog 28 1 1;" + PIECES);
        Checks.due("the second sending is just so long", longer.play(2, 0, 3, 1), 2);
        // The answer that there would be is one flash, as the message is hidden.
        LanternChess dark = Checks.game("game 5 5;clock 28 7;fog 0 3 1;" + PIECES);
        Checks.due("the answer that there would be", dark.play(0, 0, 0, 4), LanternChess.NONE);
        Checks.due("after one sending", dark.count(12), 1);
    }

    private static void playToWin() {
        LanternChess chess = Checks.game("game 4 4;white king 0 0;black king 1 1;white pawn 3 0;");
        Checks.due("white leaves its king", chess.play(3, 0, 3, 1), 1);
        Checks.due("black takes it", chess.play(1, 1, 0, 0), 1);
        Checks.due("black has won", chess.count(4), 2);
        Checks.due("it is white's turn", chess.count(3), 0);
        Checks.due("no king is in check without a king", chess.isInCheck(0, 0), false);
        Checks.dueState("play when the game is over", () -> chess.play(3, 1, 3, 2));
        Checks.due("undo", chess.undo() + " " + chess.count(4), "1 0");
    }

    private static void playToQueen() {
        LanternChess chess = Checks.game("game 4 4;white king 0 0;black king 3 3;white pawn 0 2;black pawn 2 1;");
        chess.play(0, 2, 0, 3);
        Checks.due("a white queen on both boards", "" + chess.piece(0, 0, 3) + chess.piece(1, 0, 3), "11");
        chess.play(2, 1, 2, 0);
        Checks.due("a black queen on both boards", "" + chess.piece(0, 2, 0) + chess.piece(1, 2, 0), "77");
    }

    private static void playCannot() {
        LanternChess chess = new LanternChess();
        String before = Checks.state(chess);
        Checks.due("play of no move", chess.play(0, 0, 1, 1), LanternChess.CANNOT);
        Checks.due("play of the other side", chess.play(4, 4, 4, 3), LanternChess.CANNOT);
        Checks.due("play of the same cell", chess.play(0, 0, 0, 0), LanternChess.CANNOT);
        Checks.due("play of an empty cell", chess.play(1, 1, 1, 2), LanternChess.CANNOT);
        Checks.due("no change", Checks.state(chess), before);
        LanternChess apart = givenUp();
        Checks.due("a move on the other board alone", apart.play(3, 1, 4, 1), LanternChess.CANNOT);
    }

    private static void misread() {
        LanternChess chess = Checks.game("game 5 5;" + PIECES + "tries 1;fog 11 1 1;fog 21 1 1;");
        Checks.due("a misread move is given up", chess.play(2, 0, 3, 1), 0);
        Checks.due("the receiver made another one", chess.piece(1, 2, 1), 0);
        Checks.due("the sender made none", chess.piece(0, 2, 0), 0);
        // The rook is read one row lower, by which the remainder of the SUM by 5 stays.
        LanternChess chance = Checks.game("game 5 5;" + PIECES + "fog 12 1 1;fog 19 1 1;");
        Checks.due("a misread move is answered by chance", chance.play(0, 0, 0, 4), 1);
        Checks.due("the boards differ then", Checks.state(chance), "5 5 30 1 0 2 3 4 2 1 1 1 1 1 1 1 970 1000"
            + " ..K.. ..... ..... ..... R.k.r ..K.. ..... ..... R.... ..k.r fog 12/1/1 fog 19/1/1 sent 0/1 made 0/20");
        Checks.due("white's rook is not where black sees it", chance.differ(0) + " " + chance.differ(1), "2 15");
    }

    private static void think() {
        LanternChess chess = Checks.game("game 5 5;clock 999 50;" + PIECES);
        Checks.due("think(1)", chess.think(1), 998);
        Checks.due("think(997)", chess.think(997), 1);
        Checks.due("the game goes on", chess.count(4) + " " + chess.count(2) + " " + chess.count(3), "0 998 0");
        Checks.due("think(1) at the end", chess.think(1), 0);
        Checks.due("black has won", chess.count(4) + " " + chess.count(2) + " " + chess.clock(1), "2 999 50");
        chess.undo();
        Checks.due("think(999) of 1", chess.think(999), 0);
        Checks.due("one tick passes", chess.count(2), 999);
        LanternChess black = new LanternChess();
        black.play(0, 0, 0, 4);
        Checks.due("black thinks", black.think(999) + " " + black.clock(0) + " " + black.count(4), "1 970 0");
        Checks.due("black's clock runs out", black.think(1) + " " + black.count(4), "0 1");
    }

    private static void resign() {
        LanternChess chess = new LanternChess();
        Checks.due("white resigns", chess.resign(), 1);
        Checks.due("black has won", chess.count(4) + " " + chess.count(3), "2 0");
        chess.undo();
        chess.play(0, 0, 0, 4);
        Checks.due("black resigns", chess.resign(), 0);
        Checks.due("white has won", chess.count(4), 1);
    }

    private static void settle() {
        LanternChess chess = givenUp();
        Checks.due("settle(1)", chess.settle(1), 2);
        Checks.due("the boards are black's", Checks.state(chess), "5 5 35 0 0 2 3 1 1 1 1 0 1 1 0 4 965 1000"
            + " R.... ...K. ..... ..... ..k.r R.... ...K. ..... ..... ..k.r fog 28/1/1 sent 0/1");
        Checks.due("settle(0) again", chess.settle(0), 0);
        Checks.due("it is a change", chess.count(15), 5);
        chess.undo();
        chess.undo();
        Checks.due("settle(0)", chess.settle(0), 2);
        Checks.due("the boards are white's", Checks.state(chess), "5 5 35 0 0 2 3 1 1 0 0 0 1 1 0 4 965 1000"
            + " R.K.. ..... ..... ..... ..k.r R.K.. ..... ..... ..... ..k.r fog 28/1/1 sent 0/1");
        chess.resign();
        Checks.due("settle when the game is over", chess.settle(1), 0);
    }

    private static void settleKeepsTheLatestMove() {
        LanternChess chess = givenUp();
        chess.settle(1);
        chess.settle(0);
        // White's COUNT is 1 now; of the 2 flashes of its first group one is hidden, and one of its check.
        chess.addFog(35, 1, 1);
        chess.addFog(57, 1, 1);
        Checks.due("the latest move is kept", chess.readsAs(2, 0, 3, 1), 2);
        chess.undo();
        chess.addFog(55, 1, 1);
        Checks.due("and how it was ahead of that", chess.readsAs(0, 0, 0, 4), 3);
        chess.settle(0);
        Checks.due("undo of settle", chess.undo() + " " + chess.readsAs(0, 0, 0, 4), "7 3");
    }

    private static void wind() {
        LanternChess chess = Checks.game("game 5 5;clock 9000 9999;" + PIECES);
        Checks.due("wind(0, 999)", chess.wind(0, 999), 9999);
        Checks.dueState("wind(0, 1) of 9999", () -> chess.wind(0, 1));
        Checks.dueState("wind(1, 1) of 9999", () -> chess.wind(1, 1));
        Checks.due("clocks", chess.clock(0) + " " + chess.clock(1) + " " + chess.count(15), "9999 9999 1");
        LanternChess lost = new LanternChess();
        lost.think(999);
        lost.think(1);
        Checks.due("wind when the game is over", lost.wind(0, 5), 5);
        Checks.due("it stays over", lost.count(4), 2);
        Checks.due("wind(1, 1)", lost.wind(1, 1), 1001);
        Checks.due("the time stays", lost.count(2), 1000);
    }

    private static void set() {
        LanternChess chess = new LanternChess();
        Checks.due("set(5, 5)", chess.set(5, 5), 2);
        Checks.due("set(5, 1)", chess.set(5, 1), 5);
        Checks.due("set(6, 9)", chess.set(6, 9), 3);
        Checks.due("set(6, 0)", chess.set(6, 0), 9);
        Checks.due("set(7, 9)", chess.set(7, 9), 4);
        Checks.due("set(7, 1)", chess.set(7, 1), 9);
        Checks.due("what is set", "" + chess.count(5) + chess.count(6) + chess.count(7), "101");
        Checks.due("the same once more is a change", chess.set(7, 1) + " " + chess.count(15), "1 7");
    }

    private static void undone(String what, LanternChess chess, Checks.Call change) {
        String before = Checks.state(chess);
        int changes = chess.count(15);
        change.answer();
        Checks.due(what + " is a change", chess.count(15), changes + 1);
        Checks.due("undo of " + what, chess.undo(), changes);
        Checks.due("behind undo of " + what, Checks.state(chess), before);
    }

    private static void undoOfEach() {
        LanternChess chess = givenUp();
        undone("play", chess, () -> chess.play(2, 0, 3, 1));
        undone("play of another one", chess, () -> chess.play(0, 0, 0, 4));
        undone("think", chess, () -> chess.think(9));
        undone("resign", chess, chess::resign);
        undone("settle", chess, () -> chess.settle(1));
        undone("settle with no difference", chess, () -> chess.settle(0));
        undone("wind", chess, () -> chess.wind(1, 9));
        undone("addFog", chess, () -> chess.addFog(0, 1, 1));
        undone("dropFog", chess, () -> chess.dropFog(0));
        undone("set", chess, () -> chess.set(6, 8));
        undone("set with no difference", chess, () -> chess.set(6, 3));
        Checks.type(chess, "game");
        chess.printRow(0, 0);
        chess.undo();
        Checks.due("undo leaves the input", chess.truncateInput(4), true);
        Checks.due("undo leaves the output", Checks.output(chess), "R.K..");
        chess.loadGame();
        chess.undo();
        Checks.due("undo leaves the error", chess.errorCode() + " " + chess.errorOffset(), "1 4");
        chess.saveState();
        chess.undo();
        Checks.due("undo leaves the saved state", chess.restoreState(), 0);
        Checks.due("all is undone but that", chess.count(7), 1);
    }

    private static void undoOfEight() {
        LanternChess chess = new LanternChess();
        for (int i = 1; i <= 11; i++) {
            chess.think(i);
            Checks.due("changes behind " + i, chess.count(15), Math.min(i, 8));
        }
        for (int i = 11; i > 3; i--) {
            Checks.due("undo of think(" + i + ")", chess.undo(), i - 4);
            Checks.due("the time behind it", chess.count(2), i * (i - 1) / 2);
        }
        Checks.dueThrow("a ninth undo", NoSuchElementException.class, chess::undo);
        Checks.due("it changes nothing", chess.count(2), 6);
        chess.think(5);
        Checks.due("undo once more", chess.undo() + " " + chess.count(2), "0 6");
    }

    private static void refusedChanges() {
        LanternChess chess = new LanternChess();
        chess.play(0, 0, 1, 1);
        Checks.dueArgument("think(0)", () -> chess.think(0));
        Checks.dueIndex("dropFog(0)", () -> chess.dropFog(0));
        Checks.dueArgument("set(5, 6)", () -> chess.set(5, 6));
        Checks.due("refused changes are none", chess.count(15), 0);
        Checks.dueThrow("undo", NoSuchElementException.class, chess::undo);
    }

    private static void gameOver() {
        LanternChess chess = new LanternChess();
        chess.resign();
        String before = Checks.state(chess);
        Checks.dueState("play", () -> chess.play(0, 0, 0, 4));
        Checks.dueState("play of no move", () -> chess.play(0, 0, 1, 1));
        Checks.dueArgument("play off the board", () -> chess.play(0, 0, 0, 5));
        Checks.dueState("think", () -> chess.think(1));
        Checks.dueArgument("think(0)", () -> chess.think(0));
        Checks.dueState("resign", chess::resign);
        Checks.due("calls that throw change nothing", Checks.state(chess), before);
        Checks.due("set then", chess.set(5, 3), 2);
        Checks.due("addFog then", chess.addFog(5, 5, 5), 0);
        Checks.due("dropFog then", chess.dropFog(0), 0);
    }

    private static void wrongArguments() {
        LanternChess chess = new LanternChess();
        String before = Checks.state(chess);
        Checks.dueArgument("play(-1, 0, 0, 1)", () -> chess.play(-1, 0, 0, 1));
        Checks.dueArgument("play(0, 0, 5, 1)", () -> chess.play(0, 0, 5, 1));
        Checks.dueArgument("think(1000)", () -> chess.think(1000));
        Checks.dueArgument("think(-5)", () -> chess.think(-5));
        Checks.dueIndex("settle(2)", () -> chess.settle(2));
        Checks.dueIndex("settle(-1)", () -> chess.settle(-1));
        Checks.dueIndex("wind(2, 0)", () -> chess.wind(2, 0));
        Checks.dueArgument("wind(0, 0)", () -> chess.wind(0, 0));
        Checks.dueArgument("wind(0, 1000)", () -> chess.wind(0, 1000));
        Checks.dueArgument("set(4, 1)", () -> chess.set(4, 1));
        Checks.dueArgument("set(8, 1)", () -> chess.set(8, 1));
        Checks.dueArgument("set(5, 0)", () -> chess.set(5, 0));
        Checks.dueArgument("set(5, 6)", () -> chess.set(5, 6));
        Checks.dueArgument("set(6, -1)", () -> chess.set(6, -1));
        Checks.dueArgument("set(6, 10)", () -> chess.set(6, 10));
        Checks.dueArgument("set(7, 0)", () -> chess.set(7, 0));
        Checks.dueArgument("set(7, 10)", () -> chess.set(7, 10));
        Checks.due("calls that throw change nothing", Checks.state(chess), before);
    }
}
