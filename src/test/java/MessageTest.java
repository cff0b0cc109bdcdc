/** Promises 24 to 29: messages, how they are seen and read, and what is foretold of a move. */
public final class MessageTest {
    private MessageTest() {
    }

    public static void main(String[] args) {
        groups();
        seen();
        messageTicks();
        readsNew();
        readsSameAndOther();
        readsNothing();
        ifPlayed();
        delay();
        gameOver();
        wrongArguments();
        Checks.end("MessageTest");
    }

    private static String groupsOf(LanternChess chess, int x, int y, int toX, int toY) {
        StringBuilder text = new StringBuilder();
        for (int i = 0; i < 6; i++) {
            text.append(chess.group(x, y, toX, toY, i));
        }
        return text.toString();
    }

    private static String seenOf(LanternChess chess, int x, int y, int toX, int toY) {
        StringBuilder text = new StringBuilder();
        for (int i = 0; i < 6; i++) {
            text.append(chess.seenOf(x, y, toX, toY, i));
        }
        return text.toString();
    }

    /** Black has made the king's move (2, 0) to (3, 1) on its board, and white does not know it. */
    private static LanternChess givenUp() {
        LanternChess chess = new LanternChess();
        chess.set(7, 1);
        chess.addFog(28, 1, 1);
        Checks.due("the answer is hidden", chess.play(2, 0, 3, 1), 0);
        return chess;
    }

    private static void groups() {
        LanternChess chess = new LanternChess();
        Checks.due("a move", groupsOf(chess, 0, 0, 0, 4), "111153");
        Checks.due("no move", groupsOf(chess, 4, 3, 2, 1), "154322");
        Checks.due("the same cell twice", groupsOf(chess, 0, 0, 0, 0), "111116");
        chess.play(0, 0, 0, 4);
        Checks.due("COUNT is odd", groupsOf(chess, 2, 4, 1, 3), "235243");
        LanternChess wide = Checks.game("game 8 8;white king 0 0;black king 7 7;");
        Checks.due("the greatest cells", groupsOf(wide, 7, 7, 7, 6), "188875");
        LanternChess behind = givenUp();
        Checks.due("the COUNT is that of the sender's board", groupsOf(behind, 2, 0, 3, 1), "131425");
        Checks.due("COUNTs differ", behind.count(9) + " " + behind.count(10), "0 1");
    }

    private static void seen() {
        LanternChess chess = new LanternChess();
        Checks.due("without a fog", seenOf(chess, 0, 0, 0, 4), "111153");
        // The groups begin at 0, 3, 6, 9, 12 and 19.
        chess.addFog(1, 2, 1);
        Checks.due("a fog in a pause", seenOf(chess, 0, 0, 0, 4), "111153");
        chess.addFog(12, 5, 2);
        Checks.due("a fog over a group", seenOf(chess, 0, 0, 0, 4), "111123");
        chess.addFog(0, 1, 1);
        Checks.due("a fog over the first group", seenOf(chess, 0, 0, 0, 4), "011123");
        chess.addFog(21, 1, 1);
        Checks.due("a fog over the check", seenOf(chess, 0, 0, 0, 4), "011122");
        chess.think(1);
        Checks.due("a tick later", seenOf(chess, 0, 0, 0, 4), "011132");
    }

    private static void messageTicks() {
        LanternChess chess = new LanternChess();
        Checks.due("messageTicks", chess.messageTicks(0, 0, 0, 4), 24);
        chess.set(5, 5);
        Checks.due("messageTicks with PAUSE 5", chess.messageTicks(0, 0, 0, 4), 42);
        chess.set(5, 1);
        Checks.due("messageTicks with PAUSE 1", chess.messageTicks(0, 0, 0, 4), 18);
        Checks.due("messageTicks of no move", chess.messageTicks(4, 4, 4, 4), 28);
    }

    private static void readsNew() {
        LanternChess chess = new LanternChess();
        Checks.due("a move", chess.readsAs(0, 0, 0, 4), 1);
        Checks.due("no move", chess.readsAs(0, 0, 2, 0), 0);
        Checks.due("no piece", chess.readsAs(1, 1, 1, 2), 0);
        Checks.due("a piece of the other side", chess.readsAs(2, 4, 2, 3), 0);
        Checks.due("the same cell", chess.readsAs(0, 0, 0, 0), 0);
        // Groups 1 3 1 4 2 5 begin at 0, 3, 8, 11, 17 and 21: one flash less of toX and of the check.
        chess.addFog(11, 1, 1);
        Checks.due("the check is wrong", chess.readsAs(2, 0, 3, 1), 0);
        chess.addFog(21, 1, 1);
        Checks.due("misread as another move", chess.readsAs(2, 0, 3, 1), 1);
        Checks.due("seen as another move", seenOf(chess, 2, 0, 3, 1), "131324");
    }

    private static void readsSameAndOther() {
        LanternChess chess = givenUp();
        Checks.due("the same cells", chess.readsAs(2, 0, 3, 1), 2);
        Checks.due("other cells", chess.readsAs(2, 0, 1, 1), 3);
        Checks.due("another piece, by the board ahead of it", chess.readsAs(0, 0, 0, 4), 3);
        Checks.due("shut on the board ahead of it", chess.readsAs(0, 0, 2, 0), 0);
        Checks.due("a move of the board as it is", chess.readsAs(3, 1, 4, 1), 0);
        Checks.due("play of the same", chess.play(2, 0, 3, 1), 1);
        Checks.due("COUNTs behind the same", chess.count(9) + " " + chess.count(10), "1 1");
        Checks.due("the boards are alike", chess.differ(0), 0);
        Checks.due("how it was read", chess.sent(1, 4), 2);
        chess.undo();
        Checks.due("play of another one", chess.play(0, 0, 0, 4), 1);
        Checks.due("COUNTs behind the other one", chess.count(9) + " " + chess.count(10), "1 1");
        Checks.due("the boards are alike behind the other one", chess.differ(0), 0);
        Checks.due("how it was read as another one", chess.sent(1, 4), 3);
        Checks.due("the king is back", chess.piece(1, 2, 0), 0);
        chess.undo();
        hideNextAnswer(chess, 0, 0, 0, 4);
        Checks.due("put right, but not answered", chess.play(0, 0, 0, 4), 0);
        Checks.due("put right", chess.sent(1, 4), 3);
        Checks.due("what was put right is the latest move", chess.readsAs(0, 0, 0, 4), 2);
        Checks.due("the one ahead of it is another one", chess.readsAs(2, 0, 3, 1), 3);
    }

    private static void hideNextAnswer(LanternChess chess, int x, int y, int toX, int toY) {
        chess.addFog(chess.count(2) + chess.messageTicks(x, y, toX, toY), 2, 1);
    }

    private static void readsNothing() {
        LanternChess chess = new LanternChess();
        chess.play(0, 0, 0, 4);
        Checks.due("black's move", chess.readsAs(2, 4, 1, 3), 1);
        // Groups 2 3 5 2 4 3 begin at 30, 34, 39, 46, 50 and 56.
        chess.addFog(30, 1, 1);
        chess.addFog(56, 1, 1);
        Checks.due("the other turn", seenOf(chess, 2, 4, 1, 3), "135242");
        Checks.due("the latest move is not of the sender's side", chess.readsAs(2, 4, 1, 3), 0);
        LanternChess small = Checks.game("game 4 4;white king 3 3;black king 0 0;fog 3 4 1;");
        Checks.due("x of the first cell is hidden", seenOf(small, 3, 3, 3, 2), "104433");
        Checks.due("x of no cell", small.readsAs(3, 3, 3, 2), 0);
        // With x hidden, x - 1 must not pass for the last cell of the row below.
        String wide = "game 8 8;white king 0 7;black king 7 7;white bishop 7 0;white rook 0 1;";
        LanternChess first = Checks.game(wide + "fog 3 1 1;fog 23 1 1;");
        Checks.due("x of the first cell is 0", seenOf(first, 0, 1, 6, 1), "102726");
        Checks.due("a first cell left of the board", first.readsAs(0, 1, 6, 1), 0);
        LanternChess last = Checks.game(wide + "white queen 6 1;fog 16 1 1;fog 23 1 1;");
        Checks.due("x of the last cell is 0", seenOf(last, 6, 1, 0, 1), "172026");
        Checks.due("a last cell left of the board", last.readsAs(6, 1, 0, 1), 0);
        LanternChess dark = new LanternChess();
        dark.addFog(0, 999, 1);
        Checks.due("nothing is seen", seenOf(dark, 0, 0, 0, 4), "000000");
        Checks.due("nothing is read", dark.readsAs(0, 0, 0, 4), 0);
    }

    private static String foretold(LanternChess chess, int x, int y, int toX, int toY) {
        StringBuilder text = new StringBuilder();
        for (int what = 0; what < 4; what++) {
            text.append(chess.ifPlayed(x, y, toX, toY, what)).append(' ');
        }
        return text.toString();
    }

    private static void ifPlayed() {
        LanternChess chess = new LanternChess();
        String before = Checks.state(chess);
        Checks.due("a clear move", foretold(chess, 0, 0, 0, 4), "1 30 0 0 ");
        Checks.due("no move", foretold(chess, 0, 0, 2, 0), "-2 0 0 0 ");
        Checks.due("what is foretold changes nothing", Checks.state(chess), before);
        chess.set(7, 1);
        chess.addFog(28, 1, 1);
        Checks.due("a move to be given up", foretold(chess, 2, 0, 3, 1), "0 35 2 0 ");
        chess.set(7, 2);
        Checks.due("a move to be told twice", foretold(chess, 2, 0, 3, 1), "2 73 0 0 ");
        LanternChess apart = givenUp();
        Checks.due("no move while boards differ", foretold(apart, 0, 0, 2, 0), "-2 0 2 0 ");
        LanternChess short9 = Checks.game("game 4 4;clock 9 9;white king 0 0;black king 3 3;");
        Checks.due("the clock runs out", foretold(short9, 0, 0, 0, 1), "-1 9 0 1 ");
        LanternChess win = Checks.game("game 4 4;white king 0 0;black king 1 1;");
        Checks.due("a king is taken", foretold(win, 0, 0, 1, 1).endsWith("0 1 "), true);
        Checks.due("and the game goes on", win.count(4), 0);
    }

    private static void delay() {
        LanternChess chess = new LanternChess();
        Checks.due("no delay", chess.delay(0, 0, 0, 4, 0), 0);
        Checks.due("no move", chess.delay(0, 0, 1, 1, 200), LanternChess.CANNOT);
        chess.addFog(0, 5, 1);
        Checks.due("behind the fog", chess.delay(0, 0, 0, 4, 5), 5);
        Checks.due("not so long", chess.delay(0, 0, 0, 4, 4), LanternChess.NONE);
        String before = Checks.state(chess);
        Checks.due("200 ticks", chess.delay(0, 0, 0, 4, 200), 5);
        Checks.due("delay changes nothing", Checks.state(chess), before);
        String pieces = "white king 2 0;white rook 0 0;black king 2 4;black rook 4 4;";
        LanternChess just = Checks.game("game 5 5;clock 36 9;fog 0 5 1;" + pieces);
        Checks.due("the clock is just greater", just.delay(0, 0, 0, 4, 200), 5);
        LanternChess late = Checks.game("game 5 5;clock 35 9;fog 0 5 1;" + pieces);
        Checks.due("the clock is not greater", late.delay(0, 0, 0, 4, 200), LanternChess.NONE);
    }

    private static void gameOver() {
        LanternChess chess = new LanternChess();
        chess.resign();
        Checks.dueState("ifPlayed in a game that is over", () -> chess.ifPlayed(0, 0, 0, 4, 0));
        Checks.dueState("ifPlayed of no move then", () -> chess.ifPlayed(0, 0, 2, 0, 3));
        Checks.dueArgument("ifPlayed of a wrong part then", () -> chess.ifPlayed(0, 0, 0, 4, 4));
        Checks.dueState("delay in a game that is over", () -> chess.delay(0, 0, 0, 4, 0));
        Checks.dueArgument("delay with a wrong number then", () -> chess.delay(0, 0, 0, 4, 201));
        Checks.due("readsAs then", chess.readsAs(0, 0, 0, 4), 1);
        Checks.due("group then", chess.group(0, 0, 0, 4, 4), 5);
        Checks.due("seenOf then", chess.seenOf(0, 0, 0, 4, 4), 5);
    }

    private static void wrongArguments() {
        LanternChess chess = new LanternChess();
        String before = Checks.state(chess);
        Checks.dueIndex("group(9, 0, 0, 1, 6)", () -> chess.group(9, 0, 0, 1, 6));
        Checks.dueIndex("group(0, 0, 0, 1, -1)", () -> chess.group(0, 0, 0, 1, -1));
        Checks.dueArgument("group(5, 0, 0, 1, 0)", () -> chess.group(5, 0, 0, 1, 0));
        Checks.dueArgument("group(0, 0, 0, 5, 0)", () -> chess.group(0, 0, 0, 5, 0));
        Checks.dueIndex("seenOf(0, 9, 0, 1, 6)", () -> chess.seenOf(0, 9, 0, 1, 6));
        Checks.dueIndex("seenOf(0, 0, 0, 1, -1)", () -> chess.seenOf(0, 0, 0, 1, -1));
        Checks.dueArgument("seenOf(0, -1, 0, 1, 0)", () -> chess.seenOf(0, -1, 0, 1, 0));
        Checks.dueArgument("messageTicks(0, 0, 0, 5)", () -> chess.messageTicks(0, 0, 0, 5));
        Checks.dueArgument("messageTicks(-1, 0, 0, 0)", () -> chess.messageTicks(-1, 0, 0, 0));
        Checks.dueArgument("readsAs(0, 0, 5, 0)", () -> chess.readsAs(0, 0, 5, 0));
        Checks.dueArgument("readsAs(0, 5, 0, 0)", () -> chess.readsAs(0, 5, 0, 0));
        Checks.dueArgument("ifPlayed(0, 0, 0, 1, 4)", () -> chess.ifPlayed(0, 0, 0, 1, 4));
        Checks.dueArgument("ifPlayed(0, 0, 0, 1, -1)", () -> chess.ifPlayed(0, 0, 0, 1, -1));
        Checks.dueArgument("ifPlayed(0, 0, 0, 5, 0)", () -> chess.ifPlayed(0, 0, 0, 5, 0));
        Checks.dueArgument("delay(0, 0, 0, 1, -1)", () -> chess.delay(0, 0, 0, 1, -1));
        Checks.dueArgument("delay(0, 0, 0, 1, 201)", () -> chess.delay(0, 0, 0, 1, 201));
        Checks.dueArgument("delay(0, 0, 0, 7, 0)", () -> chess.delay(0, 0, 0, 7, 0));
        Checks.due("calls that throw change nothing", Checks.state(chess), before);
    }
}
