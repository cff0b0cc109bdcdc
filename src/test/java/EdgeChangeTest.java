import java.util.NoSuchElementException;

/** The boundary cases of section 6 of the document and of promises 35 to 38, 41 and 42: changes and undo. */
public final class EdgeChangeTest {
    private static final String PIECES = "white king 2 0;white rook 0 0;black king 2 4;black rook 4 4;";

    private EdgeChangeTest() {
    }

    public static void main(String[] args) {
        constants();
        fiveHundredAndTwelveCalls();
        changes();
        changesOfNothing();
        refusedChanges();
        otherCalls();
        eightChanges();
        moreThanEightChanges();
        whatStaysBehindUndo();
        undoOfTheBoardAhead();
        undo();
        think();
        thinkOfBlack();
        resign();
        settle();
        settleTheBoardAhead();
        settleStays();
        wind();
        windWhenOver();
        set();
        throwingChangesNothing();
        indexFirst();
        argumentAheadOfState();
        Checks.end("EdgeChangeTest");
    }

    private static void constants() {
        Checks.says("The constants: `NONE = -1`: There is no such thing.");
        Checks.due("NONE", LanternChess.NONE, -1);
        Checks.says("`CANNOT = -2`: The move is no move of the side to move on its board.");
        Checks.due("CANNOT", LanternChess.CANNOT, -2);
    }

    private static void fiveHundredAndTwelveCalls() {
        Checks.says("An object is used for at most 512 calls after it has been made");
        LanternChess chess = new LanternChess();
        for (int i = 1; i < 512; i++) {
            Checks.due("call " + i, chess.think(1), 1000 - i);
        }
        Checks.due("call 512", chess.count(2), 511);
    }

    private static void isChange(String what, LanternChess chess, Checks.Call call) {
        int before = chess.count(15);
        String state = Checks.state(chess);
        call.answer();
        Checks.due(what + " is a change", chess.count(15), before + 1);
        Checks.due("undo of " + what, chess.undo(), before);
        Checks.due("the state behind undo of " + what, Checks.state(chess), state);
    }

    private static LanternChess givenUp() {
        LanternChess chess = Checks.game("game 5 5;tries 1;fog 28 1 1;" + PIECES);
        Checks.due("a move that is given up", chess.play(2, 0, 3, 1), 0);
        return chess;
    }

    private static void changes() {
        Checks.says("Changes are the methods of the section \"Changes\" below, apart from undo, when they succeed "
            + "(also if nothing is different then); one that is refused is none.");
        LanternChess chess = givenUp();
        isChange("play, answered", chess, () -> chess.play(2, 0, 3, 1));
        isChange("play, put right", chess, () -> chess.play(0, 0, 0, 4));
        isChange("think", chess, () -> chess.think(1));
        isChange("think, the clock runs out", chess, () -> chess.think(999));
        isChange("resign", chess, chess::resign);
        isChange("settle", chess, () -> chess.settle(1));
        isChange("wind", chess, () -> chess.wind(1, 999));
        isChange("addFog", chess, () -> chess.addFog(0, 1, 1));
        isChange("dropFog", chess, () -> chess.dropFog(0));
        isChange("set of PAUSE", chess, () -> chess.set(5, 5));
        isChange("set of WAIT", chess, () -> chess.set(6, 9));
        isChange("set of TRIES", chess, () -> chess.set(7, 9));
        chess.addFog(35, 999, 1);
        isChange("play, given up", chess, () -> chess.play(0, 0, 0, 4));
        LanternChess late = Checks.game("game 5 5;clock 30 30;" + PIECES);
        isChange("play, the clock runs out", late, () -> late.play(0, 0, 0, 4));
    }

    private static void changesOfNothing() {
        LanternChess chess = new LanternChess();
        isChange("settle of equal boards", chess, () -> chess.settle(0));
        isChange("set to the same PAUSE", chess, () -> chess.set(5, 2));
        isChange("set to the same WAIT", chess, () -> chess.set(6, 3));
        isChange("set to the same TRIES", chess, () -> chess.set(7, 4));
        chess.resign();
        isChange("settle when the game is over", chess, () -> chess.settle(1));
        isChange("wind when the game is over", chess, () -> chess.wind(0, 1));
        isChange("addFog when the game is over", chess, () -> chess.addFog(0, 1, 1));
        isChange("set when the game is over", chess, () -> chess.set(7, 1));
    }

    private static void refused(String what, LanternChess chess, Checks.Call call) {
        String state = Checks.state(chess);
        try {
            call.answer();
        } catch (RuntimeException e) {
            Checks.due(what + " is refused by an exception of its own", e.getMessage() == null, false);
        }
        Checks.due("the state behind " + what, Checks.state(chess), state);
    }

    private static void refusedChanges() {
        Checks.says("one that is refused is none.");
        LanternChess chess = Checks.game("game 5 5;clock 9999 9999;fog 5 1 1;" + PIECES);
        refused("play of no move", chess, () -> chess.play(0, 0, 1, 1));
        refused("play off the board", chess, () -> chess.play(0, 0, 0, 5));
        refused("think(0)", chess, () -> chess.think(0));
        refused("settle(2)", chess, () -> chess.settle(2));
        refused("wind beyond 9999", chess, () -> chess.wind(0, 1));
        refused("wind(0, 0)", chess, () -> chess.wind(0, 0));
        refused("addFog with this FROM", chess, () -> chess.addFog(5, 1, 1));
        refused("dropFog(1)", chess, () -> chess.dropFog(1));
        refused("set(5, 0)", chess, () -> chess.set(5, 0));
        Checks.dueThrow("nothing can be undone", NoSuchElementException.class, chess::undo);
        chess.resign();
        refused("play when the game is over", chess, () -> chess.play(0, 0, 0, 1));
        refused("think when the game is over", chess, () -> chess.think(1));
        refused("resign when the game is over", chess, chess::resign);
        Checks.due("one change", chess.count(15) + " " + chess.undo(), "1 0");
    }

    private static void otherCalls() {
        LanternChess chess = new LanternChess();
        chess.saveState();
        chess.printRow(0, 0);
        chess.printMoves();
        chess.printMessage(0, 0, 0, 4);
        chess.appendInput(0, 0, 0, 0, 0);
        chess.truncateInput(3);
        chess.ifPlayed(0, 0, 0, 4, 0);
        chess.delay(0, 0, 0, 4, 3);
        chess.loadGame();
        Checks.due("other methods are no changes", chess.count(15), 0);
        chess.think(1);
        chess.saveState();
        Checks.due("saveState leaves the changes", chess.count(15), 1);
    }

    private static void eightChanges() {
        Checks.says("The latest 8 changes can be undone");
        for (int changes = 1; changes <= 20; changes++) {
            LanternChess chess = new LanternChess();
            for (int i = 0; i < changes; i++) {
                chess.think(1);
                Checks.due("changes behind " + (i + 1), chess.count(15), Math.min(i + 1, 8));
            }
            int undone = Math.min(changes, 8);
            for (int i = 1; i <= undone; i++) {
                Checks.due(changes + " changes, undo " + i, chess.undo(), undone - i);
                Checks.due("the time behind undo " + i, chess.count(2), changes - i);
            }
            Checks.dueThrow("one more undo", NoSuchElementException.class, chess::undo);
            Checks.due("the time stays", chess.count(2), changes - undone);
        }
    }

    private static void moreThanEightChanges() {
        LanternChess chess = new LanternChess();
        for (int i = 0; i < 10; i++) {
            chess.think(1);
        }
        chess.undo();
        chess.undo();
        chess.undo();
        Checks.due("5 of 8 are left", chess.count(15) + " " + chess.count(2), "5 7");
        chess.think(10);
        Checks.due("and a new one", chess.count(15) + " " + chess.count(2), "6 17");
        chess.think(10);
        chess.think(10);
        chess.think(10);
        Checks.due("8 again", chess.count(15), 8);
        int[] times = {37, 27, 17, 7, 6, 5, 4, 3};
        for (int i = 0; i < 8; i++) {
            chess.undo();
            Checks.due("the time behind undo " + i, chess.count(2), times[i]);
        }
        Checks.dueThrow("no more", NoSuchElementException.class, chess::undo);
    }

    private static void whatStaysBehindUndo() {
        Checks.says("the input buffer, the error, the output and the saved state stay as they are.");
        LanternChess chess = new LanternChess();
        chess.think(5);
        Checks.type(chess, "game 9");
        chess.loadGame();
        Checks.type(chess, "game");
        chess.printRow(0, 0);
        chess.saveState();
        chess.undo();
        Checks.due("the time is back", chess.count(2), 0);
        Checks.due("the input buffer", "" + chess.truncateInput(5) + chess.truncateInput(4), "falsetrue");
        Checks.due("the error", chess.errorCode() + " " + chess.errorOffset(), "2 5");
        Checks.due("the output", Checks.output(chess), "R.K..");
        Checks.due("the saved state", chess.restoreState(), 5);
    }

    private static void undoOfTheBoardAhead() {
        LanternChess chess = givenUp();
        chess.play(0, 0, 0, 4);
        chess.play(4, 4, 4, 3);
        chess.play(0, 4, 0, 3);
        chess.undo();
        chess.undo();
        chess.undo();
        Checks.due("the latest move on black's board", chess.readsAs(2, 0, 3, 1), 2);
        Checks.due("the board ahead of it", chess.readsAs(0, 0, 0, 4), 3);
        Checks.due("a move of the board behind it", chess.readsAs(0, 0, 2, 0), 0);
        chess.undo();
        Checks.due("no move was made", chess.readsAs(2, 0, 3, 1) + " " + chess.count(10), "1 0");
    }

    private static void undo() {
        Checks.says("Throws `NoSuchElementException` if there is none");
        LanternChess chess = new LanternChess();
        Checks.dueThrow("a new object", NoSuchElementException.class, chess::undo);
        chess.resign();
        Checks.due("undo of the end", chess.undo() + " " + chess.count(4), "0 0");
        Checks.dueThrow("undone already", NoSuchElementException.class, chess::undo);
        chess.saveState();
        chess.think(1);
        chess.restoreState();
        Checks.dueThrow("behind restoreState", NoSuchElementException.class, chess::undo);
        chess.think(1);
        Checks.load(chess, "game 5 5;" + PIECES);
        Checks.dueThrow("behind loadGame", NoSuchElementException.class, chess::undo);
        chess.think(1);
        Checks.load(chess, "game 5 5;");
        Checks.due("behind loadGame with an error", chess.undo(), 0);
    }

    private static void think() {
        Checks.says("If its clock is not greater, as many ticks pass as it has, it is 0, and the other side has "
            + "won.");
        for (int ticks : new int[] {1, 49, 50, 51, 999}) {
            LanternChess chess = Checks.game("game 5 5;clock 50 70;" + PIECES);
            Checks.due("think(" + ticks + ") of 50", chess.think(ticks), Math.max(50 - ticks, 0));
            Checks.due("the clocks behind " + ticks, chess.clock(0) + " " + chess.clock(1), Math.max(50 - ticks,
                0) + " 70");
            Checks.due("the time behind " + ticks, chess.count(2), Math.min(ticks, 50));
            Checks.due("the end behind " + ticks, chess.count(4), ticks < 50 ? 0 : 2);
            Checks.due("the side to move behind " + ticks, chess.count(3), 0);
        }
        Checks.says("Throws `IllegalArgumentException` if ticks is out of range");
        Checks.dueArgumentRange("think", 1, 999, n -> new LanternChess().think(n));
        LanternChess over = new LanternChess();
        over.resign();
        Checks.dueState("think when the game is over", () -> over.think(1));
        Checks.dueArgument("a wrong number when the game is over", () -> over.think(1000));
        Checks.dueArgument("no ticks when the game is over", () -> over.think(0));
    }

    private static void thinkOfBlack() {
        Checks.says("Lets ticks pass by which the side to move thinks; they go from its clock.");
        LanternChess chess = Checks.game("game 5 5;clock 100 70;" + PIECES);
        chess.play(0, 0, 0, 4);
        Checks.due("black thinks", chess.think(69) + " " + chess.clock(0) + " " + chess.count(4), "1 70 0");
        Checks.due("black's clock runs out", chess.think(1) + " " + chess.clock(0) + " " + chess.count(4), "0 70 1");
        Checks.due("the time", chess.count(2), 100);
    }

    private static void resign() {
        Checks.says("Returns the side that has won.");
        LanternChess chess = new LanternChess();
        Checks.due("white resigns", chess.resign() + " " + chess.count(4), "1 2");
        Checks.dueState("a second time", chess::resign);
        chess.undo();
        chess.play(0, 0, 0, 4);
        Checks.due("black resigns", chess.resign() + " " + chess.count(4), "0 1");
        Checks.due("time, clocks and turn stay", chess.count(2) + " " + chess.clock(0) + " " + chess.clock(1) + " "
            + chess.count(3), "30 970 1000 1");
        LanternChess lost = Checks.game("game 5 5;clock 1 1;" + PIECES);
        lost.think(1);
        Checks.dueState("when the clock ran out", lost::resign);
        LanternChess taken = Checks.game("game 4 4;white king 0 0;black king 1 1;");
        taken.play(0, 0, 1, 1);
        Checks.dueState("when a king was taken", taken::resign);
    }

    private static void settle() {
        Checks.says("Returns in how many cells the boards differed.");
        LanternChess equal = new LanternChess();
        Checks.due("equal boards", equal.settle(0) + " " + equal.settle(1), "0 0");
        LanternChess chess = givenUp();
        Checks.due("as black's board", chess.settle(1), 2);
        Checks.due("both boards", chess.piece(0, 3, 1) + " " + chess.piece(1, 3, 1) + " " + chess.differ(0), "0 0 0");
        Checks.due("both COUNTs", chess.count(9) + " " + chess.count(10), "1 1");
        Checks.due("once more", chess.settle(0), 0);
        chess.undo();
        chess.undo();
        Checks.due("as white's board", chess.settle(0), 2);
        Checks.due("both boards", chess.piece(0, 2, 0) + " " + chess.piece(1, 2, 0) + " " + chess.differ(0), "0 0 0");
        Checks.due("both COUNTs", chess.count(9) + " " + chess.count(10), "0 0");
        Checks.dueIndexRange("settle", 0, 1, chess::settle);
    }

    private static void settleTheBoardAhead() {
        Checks.says("(its pieces, its COUNT, its latest move and how it was ahead of that, which section 3 asks "
            + "from then on)");
        // Two moves were made on both boards, a third one on black's board alone.
        LanternChess chess = Checks.game("game 5 5;" + PIECES);
        chess.play(2, 0, 3, 1);
        chess.play(4, 4, 4, 3);
        chess.set(7, 1);
        int begin = chess.count(2);
        int answerAt = begin + chess.messageTicks(3, 1, 2, 1);
        chess.addFog(answerAt, 1, 1);
        Checks.due("a move that is given up", chess.play(3, 1, 2, 1), 0);
        Checks.due("settle(1)", chess.settle(1), 2);
        // White's COUNT is 3 now, so its first group has 2 flashes; one of them is hidden, and one of the check.
        int now = chess.count(2);
        chess.addFog(now, 1, 1);
        chess.addFog(now + chess.messageTicks(3, 1, 2, 1) - 3, 1, 1);
        Checks.due("the latest move", Checks.seen(chess, "3121").charAt(0) + " " + chess.readsAs(3, 1, 2, 1), "1 2");
        Checks.due("settle(0) leaves it so", chess.settle(0) + " " + chess.readsAs(3, 1, 2, 1), "0 2");
        chess.dropFog(2);
        chess.addFog(now + chess.messageTicks(3, 1, 4, 2) - 3, 1, 1);
        Checks.due("by the board ahead of it", chess.readsAs(3, 1, 4, 2), 3);
    }

    private static void settleStays() {
        Checks.says("the side to move, the time and the clocks stay.");
        LanternChess chess = givenUp();
        chess.settle(1);
        Checks.due("white to move, 35 ticks", chess.count(3) + " " + chess.count(2) + " " + chess.clock(0) + " "
            + chess.clock(1), "0 35 965 1000");
        Checks.due("white moves as its board is now", Checks.play(chess, "3132"), 1);
        Checks.due("COUNTs", chess.count(9) + " " + chess.count(10), "2 2");
        LanternChess early = givenUp();
        early.settle(0);
        Checks.due("a message is new again", early.readsAs(2, 0, 3, 1), 1);
        Checks.due("no latest move", early.readsAs(3, 1, 3, 2), 0);
        early.resign();
        Checks.due("settle when the game is over", early.settle(1) + " " + early.count(4), "0 2");
    }

    private static void wind() {
        Checks.says("Throws `IllegalStateException` if its clock would be more than 9999");
        LanternChess chess = Checks.game("game 5 5;clock 9998 9000;" + PIECES);
        Checks.dueState("to 10000", () -> chess.wind(0, 2));
        Checks.due("to 9999", chess.wind(0, 1), 9999);
        Checks.dueState("from 9999", () -> chess.wind(0, 1));
        Checks.dueState("to 10998", () -> chess.wind(0, 999));
        Checks.due("the other side to 9999", chess.wind(1, 999), 9999);
        Checks.dueState("the other side further", () -> chess.wind(1, 1));
        Checks.dueIndex("no side ahead of no number", () -> chess.wind(2, 0));
        Checks.dueIndex("no side ahead of a full clock", () -> chess.wind(-1, 999));
        Checks.dueArgument("a wrong number ahead of a full clock", () -> chess.wind(0, 1000));
        Checks.dueArgument("no ticks ahead of a full clock", () -> chess.wind(0, 0));
        LanternChess fresh = new LanternChess();
        Checks.dueIndexRange("wind, side", 0, 1, n -> fresh.wind(n, 1));
        Checks.dueArgumentRange("wind, ticks", 1, 999, n -> fresh.wind(0, n));
        Checks.due("both clocks", fresh.clock(0) + " " + fresh.clock(1), "2001 1001");
    }

    private static void windWhenOver() {
        Checks.says("Gives a side ticks for its clock, also if the game is over (it stays over).");
        LanternChess chess = Checks.game("game 5 5;clock 1 5;" + PIECES);
        chess.think(1);
        Checks.due("a clock of 0", chess.wind(0, 999) + " " + chess.clock(0), "999 999");
        Checks.due("it stays over", chess.count(4), 2);
        Checks.dueState("no move is played", () -> chess.play(0, 0, 0, 1));
        Checks.due("the other side", chess.wind(1, 1) + " " + chess.count(2), "6 1");
    }

    private static void set() {
        Checks.says("Throws `IllegalArgumentException` if what or value is out of range");
        LanternChess chess = new LanternChess();
        Checks.dueArgumentRange("set, PAUSE", 1, 5, n -> chess.set(5, n));
        Checks.dueArgumentRange("set, WAIT", 0, 9, n -> chess.set(6, n));
        Checks.dueArgumentRange("set, TRIES", 1, 9, n -> chess.set(7, n));
        Checks.dueArgumentRange("set, what", 5, 7, n -> chess.set(n, 1));
        Checks.says("Returns the value before.");
        LanternChess fresh = new LanternChess();
        Checks.due("PAUSE", fresh.set(5, 1) + " " + fresh.set(5, 5) + " " + fresh.count(5), "2 1 5");
        Checks.due("WAIT", fresh.set(6, 0) + " " + fresh.set(6, 9) + " " + fresh.count(6), "3 0 9");
        Checks.due("TRIES", fresh.set(7, 1) + " " + fresh.set(7, 9) + " " + fresh.count(7), "4 1 9");
    }

    private static void throwingChangesNothing() {
        Checks.says("A method that throws changes nothing.");
        LanternChess chess = givenUp();
        chess.saveState();
        chess.printRow(1, 1);
        Checks.type(chess, "game");
        refused("printRow", chess, () -> chess.printRow(0, 5));
        refused("printMessage", chess, () -> chess.printMessage(0, 0, 0, 5));
        refused("ifPlayed", chess, () -> chess.ifPlayed(0, 0, 0, 1, 4));
        refused("move", chess, () -> chess.move(0, 0, 99, 0));
        chess.resign();
        refused("delay", chess, () -> chess.delay(0, 0, 0, 1, 0));
        refused("play", chess, () -> chess.play(2, 0, 3, 1));
        Checks.due("the output", Checks.output(chess), "...K.");
        Checks.due("the input", chess.truncateInput(4), true);
        Checks.due("the latest move", chess.readsAs(2, 0, 3, 1), 2);
        Checks.due("the saved state", chess.restoreState(), 35);
    }

    private static void indexFirst() {
        Checks.says("If several exceptions apply, IndexOutOfBoundsException comes first, then "
            + "IllegalArgumentException, then IllegalStateException.");
        LanternChess chess = Checks.game("game 5 5;clock 9999 9999;" + PIECES);
        Checks.dueIndex("piece", () -> chess.piece(-1, -1, -1));
        Checks.dueIndex("isMove, board", () -> chess.isMove(2, 0, 5, 5, 5, 5));
        Checks.dueIndex("isMove, side", () -> chess.isMove(0, 2, 5, 5, 5, 5));
        Checks.dueIndex("move, board", () -> chess.move(2, 0, 0, 4));
        Checks.dueIndex("move, side", () -> chess.move(0, -1, 0, -1));
        Checks.dueIndex("move, index", () -> chess.move(0, 0, 10, 4));
        Checks.dueIndex("ranked", () -> chess.ranked(-1, -1));
        Checks.dueIndex("attackers, board", () -> chess.attackers(-1, 0, 5, 0));
        Checks.dueIndex("attackers, side", () -> chess.attackers(0, -1, 0, 5));
        Checks.dueIndex("fewestMoves", () -> chess.fewestMoves(2, 5, 0, 0, 0));
        Checks.dueIndex("fog", () -> chess.fog(0, 4));
        Checks.dueIndex("group", () -> chess.group(5, 5, 5, 5, 6));
        Checks.dueIndex("seenOf", () -> chess.seenOf(-1, 0, 0, 0, -1));
        Checks.dueIndex("sent", () -> chess.sent(0, 8));
        Checks.dueIndex("made", () -> chess.made(0, 6));
        Checks.dueIndex("printRow", () -> chess.printRow(2, 5));
        Checks.dueIndex("wind, a wrong number", () -> chess.wind(2, 1000));
        Checks.dueIndex("wind, a full clock", () -> chess.wind(2, 1));
    }

    private static void argumentAheadOfState() {
        LanternChess chess = Checks.game("game 5 5;clock 9999 9999;fog 5 1 1;" + PIECES);
        Checks.dueArgument("wind of a full clock", () -> chess.wind(0, 1000));
        Checks.dueArgument("addFog with this FROM", () -> chess.addFog(5, 1000, 1));
        chess.resign();
        Checks.dueArgument("play, x", () -> chess.play(5, 0, 0, 0));
        Checks.dueArgument("play, toY", () -> chess.play(0, 0, 0, 5));
        Checks.dueArgument("think", () -> chess.think(0));
        Checks.dueArgument("ifPlayed, what", () -> chess.ifPlayed(0, 0, 0, 1, 4));
        Checks.dueArgument("ifPlayed, y", () -> chess.ifPlayed(0, 5, 0, 1, 0));
        Checks.dueArgument("delay, most", () -> chess.delay(0, 0, 0, 1, -1));
        Checks.dueArgument("delay, toX", () -> chess.delay(0, 0, -1, 1, 0));
        Checks.dueIndex("wind when the game is over", () -> chess.wind(-1, 0));
    }
}
