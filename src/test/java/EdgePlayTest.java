/** The boundary cases of section 3 behind the reading, and of promises 24 to 29 and 34: answers, ends, clocks. */
public final class EdgePlayTest {
    private static final String PIECES = "white king 2 0;white rook 0 0;black king 2 4;black rook 4 4;";

    private EdgePlayTest() {
    }

    public static void main(String[] args) {
        countGrows();
        answers();
        answersOfReadings();
        ticksOfTheAnswer();
        pauseBehindTheAnswer();
        answeredOrNot();
        answeredByChance();
        receiversTurn();
        kingOnTheSendersBoard();
        kingOnTheReceiversBoard();
        sentAgain();
        tries();
        sendersClock();
        clockOfOneSending();
        clockOfTheSecondSending();
        nothingSeenOrMade();
        answerThatThereWouldBe();
        play();
        Checks.end("EdgePlayTest");
    }

    private static void countGrows() {
        Checks.says("To make a move on a board adds 1 to its COUNT.");
        LanternChess chess = Checks.foggy("game 5 5;tries 1;" + PIECES, 28);
        chess.play(2, 0, 3, 1);
        Checks.due("on the receiver's board alone", chess.count(9) + " " + chess.count(10), "0 1");
        chess.play(2, 0, 3, 1);
        Checks.due("on the sender's board then", chess.count(9) + " " + chess.count(10), "1 1");
        chess.play(4, 4, 4, 3);
        Checks.due("on both", chess.count(9) + " " + chess.count(10), "2 2");
    }

    private static void answer(LanternChess chess, String cells, int want) {
        Checks.play(chess, cells);
        Checks.due("the answer to " + cells, chess.sent(chess.count(13) - 1, 5), want);
    }

    private static void answers() {
        Checks.says("by 1 flash if it did not understand; otherwise by 2 flashes plus the remainder by 5 of the "
            + "SUM of its board, as it is behind what it made.");
        answer(Checks.foggy("game 5 5;tries 1;" + PIECES, 0), "0010", 1);
        answer(new LanternChess(), "0010", 2);
        answer(new LanternChess(), "2011", 3);
        answer(new LanternChess(), "0001", 4);
        answer(new LanternChess(), "2031", 5);
        answer(Checks.game("game 5 5;white king 3 0;black king 4 4;"), "3031", 6);
    }

    private static void answersOfReadings() {
        LanternChess same = Checks.foggy("game 5 5;tries 1;" + PIECES, 28);
        answer(same, "2031", 5);
        answer(same, "2031", 5);
        LanternChess other = Checks.foggy("game 5 5;tries 1;" + PIECES, 28);
        answer(other, "2031", 5);
        answer(other, "2011", 3);
        LanternChess misread = Checks.foggy("game 5 5;tries 1;" + PIECES, 11, 21);
        answer(misread, "2031", 4);
        LanternChess queen = Checks.game("game 5 4;white king 0 0;black king 4 3;white pawn 0 2;");
        // 1 + 20 * 7 + 16 * 2 = 173
        answer(queen, "0203", 5);
    }

    private static void ticksOfTheAnswer() {
        Checks.says("Directly behind the message the receiver answers");
        int[] seen = {4, 3, 3, 3, 3, 4};
        for (int i = 0; i < seen.length; i++) {
            LanternChess chess = Checks.foggy("game 5 5;tries 1;" + PIECES, 23 + i);
            Checks.due("play with tick " + (23 + i) + " hidden", chess.play(0, 0, 0, 4), seen[i] == 4 ? 1 : 0);
            Checks.due("the answer with tick " + (23 + i) + " hidden", chess.sent(0, 5) + " " + chess.sent(0, 6),
                "4 " + seen[i]);
        }
    }

    private static void pauseBehindTheAnswer() {
        Checks.says("Each flash takes a tick; behind the answer PAUSE ticks pass.");
        int[] ends = {18 + 4 + 1, 24 + 4 + 2, 30 + 4 + 3, 36 + 4 + 4, 42 + 4 + 5};
        for (int pause = 1; pause <= 5; pause++) {
            LanternChess chess = Checks.game("game 5 5;pause " + pause + ";" + PIECES);
            chess.play(0, 0, 0, 4);
            Checks.due("the time behind it with PAUSE " + pause, chess.count(2), ends[pause - 1]);
        }
    }

    private static void answeredOrNot() {
        Checks.says("The sender makes the move on its board if it sees 2 flashes or more, and just as many as 2 "
            + "plus the remainder by 5 of the SUM that its board has with this move.");
        Checks.due("2 of 2 are seen", Checks.play(Checks.foggy("game 5 5;tries 1;" + PIECES), "0010"), 1);
        // The message of 14 flashes ends with tick 25.
        Checks.due("1 of 2 is seen", Checks.play(Checks.foggy("game 5 5;tries 1;" + PIECES, 26), "0010"), 0);
        Checks.due("none of 2 is seen", Checks.play(Checks.foggy("game 5 5;tries 1;" + PIECES, 26, 27), "0010"), 0);
        Checks.due("1 of 1 is seen, 2 would be right", Checks.play(Checks.foggy("game 5 5;tries 1;" + PIECES, 0),
            "0010"), 0);
        String six = "game 5 5;tries 1;white king 3 0;black king 4 4;";
        LanternChess chess = Checks.game(six);
        int answerAt = chess.messageTicks(3, 0, 3, 1);
        Checks.due("6 of 6 are seen", Checks.play(chess, "3031"), 1);
        Checks.due("5 of 6 are seen", Checks.play(Checks.foggy(six, answerAt), "3031"), 0);
        Checks.due("the last one is hidden", Checks.play(Checks.foggy(six, answerAt + 5), "3031"), 0);
        Checks.due("the tick behind it is hidden", Checks.play(Checks.foggy(six, answerAt + 6), "3031"), 1);
        LanternChess none = Checks.foggy("game 5 5;tries 1;" + PIECES, 26);
        none.play(0, 0, 1, 0);
        Checks.due("it makes none on its board", none.piece(0, 0, 0) + " " + none.count(9) + " " + none.count(11),
            "2 0 0");
    }

    private static void answeredByChance() {
        // Read as the move to (0, 1), to which 4 flashes are the answer; white waits for 2 and sees 2.
        String text = "game 5 5;tries 1;white king 2 0;black king 2 4;white rook 3 1;";
        LanternChess chance = Checks.foggy(text, 13, 21, 28, 29);
        Checks.due("2 of 4 are seen, and 2 are right", chance.play(3, 1, 1, 1), 1);
        Checks.due("what was seen", chance.sent(0, 4) + " " + chance.sent(0, 5) + " " + chance.sent(0, 6), "1 4 2");
        Checks.due("the boards differ", chance.differ(0) + " " + chance.differ(1), "2 5");
        LanternChess more = Checks.foggy(text, 13, 21, 28);
        Checks.due("3 of 4 are seen, and 2 are right", more.play(3, 1, 1, 1), 0);
        LanternChess less = Checks.foggy(text, 13, 21, 28, 29, 30);
        Checks.due("1 of 4 is seen, and 2 are right", less.play(3, 1, 1, 1), 0);
    }

    private static void receiversTurn() {
        Checks.says("The move is answered then, and it is the receiver's turn");
        LanternChess chess = new LanternChess();
        chess.play(0, 0, 0, 4);
        Checks.due("black's turn", chess.count(3) + " " + chess.count(4), "1 0");
        chess.play(4, 4, 4, 3);
        Checks.due("white's turn", chess.count(3) + " " + chess.count(4), "0 0");
        LanternChess both = Checks.game("game 4 4;white king 0 0;black king 1 1;");
        both.play(0, 0, 1, 1);
        Checks.due("it is the receiver's turn, though the game is over", both.count(3) + " " + both.count(4), "1 1");
        LanternChess black = Checks.game("game 4 4;white king 0 0;black king 1 1;white pawn 3 0;");
        black.play(3, 0, 3, 1);
        black.play(1, 1, 0, 0);
        Checks.due("black has won, and it is white's turn", black.count(3) + " " + black.count(4), "0 2");
    }

    /** Black's king is at (4, 1) on white's board, at (4, 3) on black's one, which no SUM shows; white is to move. */
    private static LanternChess kingsApart() {
        LanternChess chess = Checks.game("game 5 5;white king 0 0;white rook 0 1;white rook 0 3;black king 4 2;"
            + "fog 55 2 1;fog 61 2 1;");
        Checks.due("white's move", chess.play(0, 0, 1, 0), 1);
        Checks.due("black's move is misread", chess.play(4, 2, 4, 3), 1);
        Checks.due("where black's king is", chess.piece(0, 4, 1) + " " + chess.piece(1, 4, 3), "6 6");
        return chess;
    }

    private static void kingOnTheSendersBoard() {
        Checks.says("if the move took a king on the sender's board, the sender has won.");
        LanternChess chess = kingsApart();
        Checks.due("a king is taken on white's board alone", chess.play(0, 1, 4, 1), 1);
        Checks.due("white has won", chess.count(4), 1);
        Checks.due("what it took", chess.made(2, 3), 0);
        Checks.due("black's king stands on black's board", chess.material(0, 1) + " " + chess.material(1, 1), "0 100");
        LanternChess foretold = kingsApart();
        Checks.due("foretold", foretold.ifPlayed(0, 1, 4, 1, 3) + " " + foretold.ifPlayed(0, 1, 4, 1, 2), "1 1");
    }

    private static void kingOnTheReceiversBoard() {
        LanternChess chess = kingsApart();
        Checks.due("a king is taken on black's board alone", chess.play(0, 3, 4, 3), 1);
        Checks.due("the game goes on", chess.count(4) + " " + chess.count(3), "0 1");
        Checks.due("what it took on white's board", chess.made(2, 3), LanternChess.NONE);
        Checks.due("black's king stands on white's board", chess.material(0, 1) + " " + chess.material(1, 1), "100 0");
        Checks.due("black has no piece to play", chess.moves(1, 1), 0);
        Checks.due("black cannot move what stands on white's board", chess.play(4, 1, 4, 0), LanternChess.CANNOT);
        LanternChess foretold = kingsApart();
        Checks.due("foretold", foretold.ifPlayed(0, 3, 4, 3, 3) + " " + foretold.ifPlayed(0, 3, 4, 3, 2), "0 1");
    }

    private static void sentAgain() {
        Checks.says("Otherwise it sends the message again, behind WAIT ticks (0 to 9), unless it has sent it TRIES "
            + "times (1 to 9); then the move is given up: it is still the sender's turn.");
        for (int wait = 0; wait <= 9; wait += 9) {
            for (int tries = 1; tries <= 9; tries++) {
                String settings = "wait " + wait + ";tries " + tries + ";";
                LanternChess chess = Checks.game("game 5 5;fog 0 999 1;" + settings + PIECES);
                String what = "WAIT " + wait + ", TRIES " + tries;
                Checks.due(what + ": given up", chess.play(0, 0, 0, 4), 0);
                Checks.due(what + ": sendings", chess.count(12), tries);
                Checks.due(what + ": the time", chess.count(2), tries * 27 + (tries - 1) * wait);
                Checks.due(what + ": the last one", chess.sent(tries - 1, 0), (tries - 1) * (27 + wait));
                Checks.due(what + ": whose turn it is", chess.count(3) + " " + chess.count(4), "0 0");
                Checks.due(what + ": no answered move", chess.count(11) + " " + chess.count(9), "0 0");
            }
        }
    }

    private static void tries() {
        for (int tries = 1; tries <= 9; tries++) {
            // The first 8 sendings take 8 * 27 ticks.
            LanternChess chess = Checks.game("game 5 5;fog 0 216 1;wait 0;tries " + tries + ";" + PIECES);
            Checks.due("TRIES " + tries + ", clear with the ninth sending", chess.play(0, 0, 0, 4), tries < 9 ? 0 : 9);
        }
        LanternChess second = Checks.game("game 5 5;fog 0 30 1;wait 3;tries 2;" + PIECES);
        Checks.due("clear with the second sending", second.play(0, 0, 0, 4) + " " + second.made(0, 4), "2 2");
        LanternChess third = Checks.game("game 5 5;fog 0 31 1;wait 3;tries 2;" + PIECES);
        Checks.due("its first flash is hidden", third.play(0, 0, 0, 4), 0);
    }

    private static void sendersClock() {
        Checks.says("All of these ticks go from the sender's clock.");
        LanternChess chess = new LanternChess();
        chess.play(0, 0, 0, 4);
        Checks.due("white's ticks", chess.clock(0) + " " + chess.clock(1), "970 1000");
        int before = chess.count(2);
        chess.play(4, 4, 4, 3);
        Checks.due("black's ticks", chess.clock(0) + " " + (chess.clock(1) + chess.count(2) - before), "970 1000");
    }

    private static void clockOfOneSending() {
        Checks.says("If its clock is not greater than all ticks of a sending (WAIT, if it is sent again, the "
            + "message, the answer that there would be, and the pause behind it)");
        for (int clock : new int[] {1, 29, 30, 31, 32}) {
            LanternChess chess = Checks.game("game 5 5;clock " + clock + " 1;wait 9;" + PIECES);
            Checks.due("a clock of " + clock, chess.play(0, 0, 0, 4), clock > 30 ? 1 : LanternChess.NONE);
            Checks.due("what is left of " + clock, chess.clock(0), Math.max(clock - 30, 0));
            Checks.due("the time with " + clock, chess.count(2), Math.min(clock, 30));
            Checks.due("the end with " + clock, chess.count(4), clock > 30 ? 0 : 2);
        }
        LanternChess black = Checks.game("game 5 5;clock 999 40;" + PIECES);
        black.play(0, 0, 0, 4);
        Checks.due("black's clock is as long as its sending", black.ifPlayed(4, 4, 4, 3, 1), 40);
        Checks.due("black's clock runs out", black.play(4, 4, 4, 3) + " " + black.count(4) + " " + black.count(3),
            "-1 1 1");
    }

    private static void clockOfTheSecondSending() {
        for (int clock : new int[] {27, 28, 62, 63, 64}) {
            LanternChess chess = Checks.game("game 5 5;clock " + clock + " 1;wait 9;tries 2;fog 0 999 1;" + PIECES);
            Checks.due("a clock of " + clock, chess.play(0, 0, 0, 4), clock > 63 ? 0 : LanternChess.NONE);
            Checks.due("sendings with " + clock, chess.count(12), clock > 63 ? 2 : clock > 27 ? 1 : 0);
            Checks.due("the time with " + clock, chess.count(2), Math.min(clock, 63));
            Checks.due("what is left of " + clock, chess.clock(0), Math.max(clock - 63, 0));
        }
    }

    private static void nothingSeenOrMade() {
        Checks.says("nothing of this sending is seen or made, and it does not count as a sending: as many ticks "
            + "pass as its clock has, its clock is 0, and the other side has won.");
        LanternChess chess = Checks.game("game 5 5;clock 30 7;" + PIECES);
        Checks.due("the message would be read, and answered by 4 flashes", chess.readsAs(0, 0, 0, 4), 1);
        chess.play(0, 0, 0, 4);
        Checks.due("boards, COUNTs, sendings and moves", Checks.state(chess), "5 5 30 0 2 2 3 4 0 0 0 0 0 0 0 1 0 7"
            + " R.K.. ..... ..... ..... ..k.r R.K.. ..... ..... ..... ..k.r");
        Checks.dueIndex("no sending is kept", () -> chess.sent(0, 0));
        Checks.due("it can be undone", chess.undo() + " " + chess.clock(0) + " " + chess.count(2), "0 30 0");
        LanternChess right = Checks.foggy("game 5 5;clock 72 7;tries 2;" + PIECES, 11, 21);
        Checks.due("a misread move", right.play(2, 0, 3, 1), LanternChess.NONE);
        Checks.due("is not put right any more", right.piece(1, 2, 1) + " " + right.sent(0, 4) + " " + right.count(13),
            "0 1 1");
    }

    private static void answerThatThereWouldBe() {
        String text = "game 5 5;tries 1;clock ";
        LanternChess one = Checks.foggy(text + "28 7;" + PIECES, 0);
        Checks.due("an answer of 1 flash: 27 ticks", one.play(0, 0, 0, 4) + " " + one.clock(0), "0 1");
        LanternChess less = Checks.foggy(text + "27 7;" + PIECES, 0);
        Checks.due("an answer of 1 flash, and a clock of 27", less.play(0, 0, 0, 4), LanternChess.NONE);
        LanternChess hidden = Checks.game(text + "30 7;fog 24 5 1;" + PIECES);
        Checks.due("an answer of 4 flashes that are hidden", hidden.play(0, 0, 0, 4), LanternChess.NONE);
    }

    private static void play() {
        Checks.says("CANNOT, with no change, if it is no move of this side on its board.");
        LanternChess chess = new LanternChess();
        String before = Checks.state(chess);
        for (String cells : new String[] {"0000", "0020", "1112", "4443", "2022", "0011"}) {
            Checks.due("play " + cells, Checks.play(chess, cells), LanternChess.CANNOT);
        }
        Checks.due("nothing is changed", Checks.state(chess), before);
        Checks.says("Throws `IllegalStateException` if the game is over");
        LanternChess over = new LanternChess();
        over.resign();
        Checks.dueState("a move", () -> over.play(0, 0, 0, 1));
        Checks.dueState("no move", () -> over.play(0, 0, 1, 1));
        Checks.dueArgument("no cell", () -> over.play(0, 5, 0, 1));
        Checks.says("Throws `IllegalArgumentException` if one of the cells is not on the board");
        LanternChess high = Checks.game("game 4 8;white king 1 1;black king 3 7;");
        Checks.dueCells("play on 4 by 8", high, high::play);
        LanternChess wide = Checks.game("game 8 4;white king 1 1;black king 7 3;");
        Checks.dueCells("play on 8 by 4", wide, wide::play);
        Checks.due("nothing is played", high.count(12) + " " + high.count(15), "0 0");
    }
}
