/** The boundary cases of promises 24 to 29: the message of a move, and what would come if it was played. */
public final class EdgeForetoldTest {
    private static final String PIECES = "white king 2 0;white rook 0 0;black king 2 4;black rook 4 4;";

    private EdgeForetoldTest() {
    }

    public static void main(String[] args) {
        group();
        seenOf();
        messageTicks();
        readsAs();
        readsAsWhenOver();
        ifPlayed();
        ifPlayedParts();
        ifPlayedOnACopy();
        ifPlayedThrows();
        delay();
        delayOf200();
        delayAndTheClock();
        delayToAFirstAnswer();
        delayThrows();
        Checks.end("EdgeForetoldTest");
    }

    private static void group() {
        Checks.says("Throws `IndexOutOfBoundsException` if there is no such group");
        LanternChess chess = new LanternChess();
        Checks.dueIndexRange("group", 0, 5, n -> chess.group(0, 0, 0, 1, n));
        Checks.dueIndex("no group ahead of no cell", () -> chess.group(0, 0, 0, 5, 6));
        Checks.says("Throws `IllegalArgumentException` if one of the cells is not on the board");
        LanternChess high = Checks.game("game 4 8;white king 1 1;black king 3 7;");
        Checks.dueCells("group on 4 by 8", high, (x, y, toX, toY) -> high.group(x, y, toX, toY, 0));
        LanternChess wide = Checks.game("game 8 4;white king 1 1;black king 7 3;");
        Checks.dueCells("group on 8 by 4", wide, (x, y, toX, toY) -> wide.group(x, y, toX, toY, 5));
    }

    private static void seenOf() {
        Checks.says("Returns the flashes of a group that the receiver would see, if the message began now.");
        LanternChess chess = new LanternChess();
        Checks.dueIndexRange("seenOf", 0, 5, n -> chess.seenOf(0, 0, 0, 1, n));
        Checks.dueIndex("no group ahead of no cell", () -> chess.seenOf(5, 0, 0, 0, -1));
        LanternChess high = Checks.game("game 4 8;white king 1 1;black king 3 7;");
        Checks.dueCells("seenOf on 4 by 8", high, (x, y, toX, toY) -> high.seenOf(x, y, toX, toY, 0));
        chess.addFog(0, 24, 1);
        Checks.due("no flash is seen", Checks.seen(chess, "0004"), "000000");
        chess.think(21);
        Checks.due("the last hidden ticks", Checks.seen(chess, "0004"), "011153");
        chess.think(3);
        Checks.due("behind the fog", Checks.seen(chess, "0004"), "111153");
    }

    private static void messageTicks() {
        Checks.says("Returns the ticks of a message, with the pauses behind its groups.");
        LanternChess chess = new LanternChess();
        int[] want = {12 + 6, 12 + 12, 12 + 18, 12 + 24, 12 + 30};
        for (int pause = 1; pause <= 5; pause++) {
            chess.set(5, pause);
            Checks.due("PAUSE " + pause, chess.messageTicks(0, 0, 0, 4), want[pause - 1]);
        }
        LanternChess eight = Checks.game("game 8 8;pause 5;white king 0 0;black king 7 7;");
        Checks.due("the cells that are told by most flashes", eight.messageTicks(7, 7, 7, 7), 33 + 6 + 30);
        Checks.due("the cells that are told by fewest flashes", eight.messageTicks(0, 0, 0, 0), 5 + 6 + 30);
        eight.addFog(0, 999, 1);
        Checks.due("hidden flashes take their ticks", eight.messageTicks(0, 0, 0, 0), 41);
        LanternChess high = Checks.game("game 4 8;white king 1 1;black king 3 7;");
        Checks.dueCells("messageTicks on 4 by 8", high, high::messageTicks);
    }

    private static void readsAs() {
        Checks.says("Returns 0 it would not understand it, 1 new, 2 same, 3 other.");
        LanternChess chess = Checks.game("game 5 5;tries 1;fog 28 1 1;" + PIECES);
        Checks.due("new", chess.readsAs(2, 0, 3, 1), 1);
        chess.play(2, 0, 3, 1);
        Checks.due("same", chess.readsAs(2, 0, 3, 1), 2);
        Checks.due("other", chess.readsAs(2, 0, 1, 1), 3);
        Checks.due("not understood", chess.readsAs(2, 0, 2, 2), 0);
        LanternChess high = Checks.game("game 4 8;white king 1 1;black king 3 7;");
        Checks.dueCells("readsAs on 4 by 8", high, high::readsAs);
        LanternChess wide = Checks.game("game 8 4;white king 1 1;black king 7 3;");
        Checks.dueCells("readsAs on 8 by 4", wide, wide::readsAs);
    }

    private static void readsAsWhenOver() {
        Checks.says("Tells how the receiver would read a message, if it began now (whether the game goes on or "
            + "not).");
        LanternChess chess = new LanternChess();
        chess.addFog(3, 2, 1);
        Checks.due("while the game goes on", chess.readsAs(0, 0, 0, 4), 0);
        chess.think(10);
        Checks.due("later", chess.readsAs(0, 0, 0, 4), 1);
        chess.resign();
        Checks.due("when the game is over", chess.readsAs(0, 0, 0, 4), 1);
        chess.addFog(13, 1, 1);
        Checks.due("a fog when the game is over", chess.readsAs(0, 0, 0, 4), 0);
        Checks.due("group and messageTicks", chess.group(0, 0, 0, 4, 5) + " " + chess.messageTicks(0, 0, 0, 4), "3 24");
        LanternChess lost = Checks.game("game 5 5;clock 1 1;" + PIECES);
        lost.think(1);
        Checks.due("the clock of the sender plays no part", lost.readsAs(0, 0, 0, 4), 1);
    }

    private static String foretold(LanternChess chess, String cells) {
        StringBuilder text = new StringBuilder();
        for (int what = 0; what < 4; what++) {
            text.append(chess.ifPlayed(Checks.digit(cells, 0), Checks.digit(cells, 1), Checks.digit(cells, 2),
                Checks.digit(cells, 3), what)).append(' ');
        }
        return text.toString().trim();
    }

    private static void ifPlayed() {
        Checks.says("0 what play() would return, 1 how many ticks would pass, 2 in how many cells the boards would "
            + "differ then, 3 1 if the game would be over then, otherwise 0");
        Checks.due("answered at once", foretold(new LanternChess(), "0004"), "1 30 0 0");
        Checks.due("no move", foretold(new LanternChess(), "0020"), "-2 0 0 0");
        LanternChess behind = Checks.game("game 5 5;tries 1;fog 28 1 1;" + PIECES);
        Checks.due("given up", foretold(behind, "2031"), "0 35 2 0");
        behind.play(2, 0, 3, 1);
        Checks.due("no move while the boards differ", foretold(behind, "0020"), "-2 0 2 0");
        Checks.due("put right", foretold(behind, "0004"), "1 30 0 0");
        Checks.due("told again", foretold(behind, "2031"), "1 35 0 0");
        LanternChess nine = Checks.game("game 5 5;tries 9;wait 0;fog 0 216 1;" + PIECES);
        Checks.due("answered on the ninth sending", foretold(nine, "0004"), "9 246 0 0");
    }

    private static void ifPlayedParts() {
        for (int clock : new int[] {1, 30, 31}) {
            LanternChess chess = Checks.game("game 5 5;clock " + clock + " 5;" + PIECES);
            Checks.due("a clock of " + clock, foretold(chess, "0004"),
                clock > 30 ? "1 30 0 0" : "-1 " + clock + " 0 1");
        }
        LanternChess second = Checks.game("game 5 5;clock 72 5;fog 28 1 1;" + PIECES);
        Checks.due("the clock runs out in the second sending", foretold(second, "2031"), "-1 72 2 1");
        LanternChess win = Checks.game("game 4 4;white king 0 0;black king 1 1;");
        Checks.due("a king is taken", foretold(win, "0011"), "1 25 0 1");
    }

    private static void ifPlayedOnACopy() {
        Checks.says("What would be is worked out on a copy.");
        LanternChess chess = Checks.game("game 5 5;tries 2;fog 28 1 1;" + PIECES);
        chess.set(6, 3);
        chess.saveState();
        chess.printRow(0, 0);
        String before = Checks.state(chess);
        foretold(chess, "2031");
        chess.delay(2, 0, 3, 1, 200);
        Checks.due("ifPlayed and delay change nothing", Checks.state(chess), before);
        Checks.due("the message is new still", chess.readsAs(2, 0, 3, 1), 1);
        Checks.due("the output stays", Checks.output(chess), "R.K..");
        int would = chess.ifPlayed(2, 0, 3, 1, 0);
        int ticks = chess.ifPlayed(2, 0, 3, 1, 1);
        Checks.due("what was foretold is what comes", chess.play(2, 0, 3, 1) + " " + chess.count(2),
            would + " " + ticks);
        Checks.due("the saved state is as it was", chess.restoreState() + " " + chess.readsAs(2, 0, 3, 1), "0 1");
    }

    private static void ifPlayedThrows() {
        Checks.says("Throws `IllegalArgumentException` if one of the cells is not on the board, or what is out of "
            + "range");
        LanternChess chess = new LanternChess();
        Checks.dueArgumentRange("ifPlayed, what", 0, 3, n -> chess.ifPlayed(0, 0, 0, 4, n));
        Checks.dueArgumentRange("ifPlayed of no move, what", 0, 3, n -> chess.ifPlayed(0, 0, 2, 0, n));
        LanternChess high = Checks.game("game 4 8;white king 1 1;black king 3 7;");
        Checks.dueCells("ifPlayed on 4 by 8", high, (x, y, toX, toY) -> high.ifPlayed(x, y, toX, toY, 0));
        Checks.says("Throws `IllegalStateException` if the game is over");
        chess.resign();
        for (int what = 0; what < 4; what++) {
            int part = what;
            Checks.dueState("ifPlayed, " + what, () -> chess.ifPlayed(0, 0, 0, 4, part));
        }
        Checks.dueState("ifPlayed of no move", () -> chess.ifPlayed(0, 0, 2, 0, 0));
        Checks.dueArgument("a wrong part when the game is over", () -> chess.ifPlayed(0, 0, 0, 4, 4));
        Checks.dueArgument("a wrong cell when the game is over", () -> chess.ifPlayed(0, 0, 0, 5, 0));
    }

    private static void delay() {
        Checks.says("Returns the least number of ticks, 0 to most; NONE if there is none; CANNOT if it is no move "
            + "on its board.");
        LanternChess chess = new LanternChess();
        Checks.due("not at all", chess.delay(0, 0, 0, 4, 0) + " " + chess.delay(0, 0, 0, 4, 200), "0 0");
        Checks.due("no move", chess.delay(0, 0, 2, 0, 0) + " " + chess.delay(4, 4, 4, 3, 200), "-2 -2");
        chess.addFog(0, 1, 1);
        Checks.due("one tick", chess.delay(0, 0, 0, 4, 1), 1);
        Checks.due("one tick is too long", chess.delay(0, 0, 0, 4, 0), LanternChess.NONE);
        Checks.due("no move in the fog", chess.delay(0, 0, 2, 0, 200), LanternChess.CANNOT);
        chess.dropFog(0);
        chess.addFog(0, 19, 9);
        Checks.due("0, 9 and 18 are hidden; the least one", chess.delay(0, 0, 0, 4, 200), 1);
        chess.think(1);
        Checks.due("played then", chess.play(0, 0, 0, 4), 1);
        LanternChess apart = Checks.game("game 5 5;fog 12 1 1;fog 19 1 1;" + PIECES);
        apart.play(0, 0, 0, 4);
        apart.play(4, 4, 4, 3);
        Checks.due("a move on white's board alone is not understood", apart.delay(0, 4, 1, 4, 200), LanternChess.NONE);
        Checks.due("a move on black's board alone is none", apart.delay(0, 3, 1, 3, 200), LanternChess.CANNOT);
    }

    private static void delayOf200() {
        Checks.says("0 to 200: how many ticks at most");
        for (int fog = 199; fog <= 201; fog++) {
            LanternChess chess = Checks.game("game 5 5;fog 0 " + fog + " 1;" + PIECES);
            Checks.due("at most 200 ticks, a fog of " + fog, chess.delay(0, 0, 0, 4, 200), fog > 200 ? -1 : fog);
            Checks.due("at most 199 ticks, a fog of " + fog, chess.delay(0, 0, 0, 4, 199), fog > 199 ? -1 : fog);
        }
    }

    private static void delayAndTheClock() {
        for (int clock : new int[] {1, 5, 34, 35, 36}) {
            LanternChess chess = Checks.game("game 5 5;clock " + clock + " 5;fog 0 5 1;" + PIECES);
            Checks.due("a clock of " + clock, chess.delay(0, 0, 0, 4, 200), clock > 35 ? 5 : LanternChess.NONE);
        }
        LanternChess exact = Checks.game("game 5 5;clock 36 5;fog 0 5 1;" + PIECES);
        exact.think(5);
        Checks.due("played then", exact.play(0, 0, 0, 4) + " " + exact.clock(0), "1 1");
        LanternChess now = Checks.game("game 5 5;clock 30 5;" + PIECES);
        Checks.due("the clock is too short at once", now.delay(0, 0, 0, 4, 200), LanternChess.NONE);
    }

    private static void delayToAFirstAnswer() {
        Checks.says("so that play() returns 1 then.");
        LanternChess chess = Checks.game("game 5 5;fog 28 1 1;" + PIECES);
        Checks.due("play() would return 2 now", chess.ifPlayed(2, 0, 3, 1, 0), 2);
        Checks.due("not now", chess.delay(2, 0, 3, 1, 0), LanternChess.NONE);
        Checks.due("a tick later", chess.delay(2, 0, 3, 1, 200), 1);
        LanternChess chance = Checks.game("game 5 5;fog 12 1 1;fog 19 1 1;" + PIECES);
        Checks.due("a misread move that is answered by chance", chance.delay(0, 0, 0, 4, 0), 0);
        LanternChess late = Checks.game("game 5 5;tries 1;fog 28 1 1;" + PIECES);
        late.play(2, 0, 3, 1);
        Checks.due("from now on, the same", late.delay(2, 0, 3, 1, 0), 0);
        Checks.due("from now on, another one", late.delay(2, 0, 1, 1, 0), 0);
    }

    private static void delayThrows() {
        Checks.says("Throws `IllegalArgumentException` if one of the cells is not on the board, or most is out of "
            + "range");
        LanternChess chess = new LanternChess();
        Checks.dueArgumentRange("delay, most", 0, 200, n -> chess.delay(0, 0, 0, 4, n));
        Checks.dueArgumentRange("delay of no move, most", 0, 200, n -> chess.delay(0, 0, 2, 0, n));
        LanternChess high = Checks.game("game 4 8;white king 1 1;black king 3 7;");
        Checks.dueCells("delay on 4 by 8", high, (x, y, toX, toY) -> high.delay(x, y, toX, toY, 0));
        Checks.says("Throws `IllegalStateException` if the game is over");
        chess.resign();
        Checks.dueState("delay of a move", () -> chess.delay(0, 0, 0, 4, 0));
        Checks.dueState("delay of no move", () -> chess.delay(0, 0, 2, 0, 0));
        Checks.dueArgument("too long when the game is over", () -> chess.delay(0, 0, 0, 4, 201));
        Checks.dueArgument("a wrong cell when the game is over", () -> chess.delay(0, -1, 0, 4, 0));
    }
}
