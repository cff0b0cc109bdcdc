/** The boundary cases of section 5 of the document and of promises 30 to 33: sendings and moves that are kept. */
public final class EdgeKeptTest {
    private static final String PIECES = "white king 2 0;white rook 0 0;black king 2 4;black rook 4 4;";
    private static final String LONG = "game 5 5;clock 9999 9999;" + PIECES;

    private EdgeKeptTest() {
    }

    public static void main(String[] args) {
        nothingKept();
        twentySendings();
        twentySendingsOfThreeMoves();
        twentyMoves();
        sent();
        sentOfReadings();
        made();
        madeOnTheSendersBoard();
        meanTries();
        meanOfTheKept();
        hiddenShare();
        shareOfTheKept();
        meansBehindOtherGames();
        Checks.end("EdgeKeptTest");
    }

    /** Plays the rooks to and fro; the moves of a side are told by 0, 1 and so on. */
    private static int playRook(LanternChess chess, int number) {
        boolean isBack = number / 2 % 2 == 1;
        int x = number % 2 == 0 ? 0 : 4;
        int home = number % 2 == 0 ? 0 : 4;
        int away = number % 2 == 0 ? 1 : 3;
        return chess.play(x, isBack ? away : home, x, isBack ? home : away);
    }

    private static void nothingKept() {
        LanternChess chess = new LanternChess();
        Checks.says("Throws `IndexOutOfBoundsException` if there is no such sending");
        Checks.dueIndex("the first one of no sendings", () -> chess.sent(0, 0));
        Checks.dueIndex("no sending ahead of no part", () -> chess.sent(0, 8));
        Checks.says("Throws `IndexOutOfBoundsException` if there is no such move");
        Checks.dueIndex("the first one of no moves", () -> chess.made(0, 0));
        Checks.dueIndex("no move ahead of no part", () -> chess.made(0, 6));
        LanternChess dark = Checks.game("game 5 5;tries 2;fog 0 999 1;" + PIECES);
        dark.play(0, 0, 0, 4);
        Checks.dueIndexRange("two sendings", 0, 1, n -> dark.sent(n, 0));
        Checks.dueIndex("no move was answered", () -> dark.made(0, 0));
    }

    private static void twentySendings() {
        Checks.says("The latest 20 sendings and the latest 20 answered moves are kept, each numbered from 0 for "
            + "the earliest one that is kept.");
        LanternChess chess = Checks.game("game 5 5;clock 9999 9999;wait 9;tries 1;fog 0 999 1;" + PIECES);
        for (int i = 1; i <= 23; i++) {
            chess.play(0, 0, 0, 4);
            int last = Math.min(i, 20) - 1;
            Checks.due(i + " sendings", chess.count(12) + " " + chess.count(13), i + " " + (last + 1));
            Checks.due("the earliest of " + i, chess.sent(0, 0), 27 * (i - 1 - last));
            Checks.due("the latest of " + i, chess.sent(last, 0), 27 * (i - 1));
            Checks.dueIndexRange("sendings, " + i, 0, last, n -> chess.sent(n, 0));
        }
        Checks.dueArgumentRange("sent, what", 0, 7, n -> chess.sent(19, n));
        Checks.dueIndex("no sending ahead of no part", () -> chess.sent(20, 8));
    }

    private static void twentySendingsOfThreeMoves() {
        LanternChess chess = Checks.game("game 5 5;clock 9999 9999;wait 0;tries 9;fog 0 999 1;" + PIECES);
        chess.play(0, 0, 0, 4);
        chess.play(0, 0, 0, 4);
        Checks.due("18 sendings", chess.count(12) + " " + chess.count(13) + " " + chess.sent(0, 0), "18 18 0");
        chess.play(0, 0, 0, 4);
        Checks.due("27 sendings", chess.count(12) + " " + chess.count(13) + " " + chess.sent(0, 0), "27 20 189");
        chess.undo();
        Checks.due("18 sendings again", chess.count(12) + " " + chess.count(13) + " " + chess.sent(0, 0), "18 18 0");
        Checks.due("no move", chess.count(11) + " " + chess.count(14), "0 0");
    }

    private static void twentyMoves() {
        LanternChess chess = Checks.game(LONG);
        int[] ends = new int[24];
        for (int i = 1; i <= 23; i++) {
            Checks.due("move " + i, playRook(chess, i - 1), 1);
            ends[i] = chess.count(2);
            int last = Math.min(i, 20) - 1;
            Checks.due(i + " moves", chess.count(11) + " " + chess.count(14), i + " " + (last + 1));
            Checks.due("the earliest of " + i, chess.made(0, 5), ends[i - last]);
            Checks.due("the latest of " + i, chess.made(last, 5), ends[i]);
            Checks.dueIndexRange("moves, " + i, 0, last, n -> chess.made(n, 0));
        }
        Checks.due("the side of the earliest one, the fourth", chess.made(0, 0), 1);
        Checks.due("its cells", chess.made(0, 1) + " " + chess.made(0, 2), "19 24");
        Checks.dueArgumentRange("made, what", 0, 5, n -> chess.made(19, n));
        Checks.dueIndex("no move ahead of no part", () -> chess.made(20, 6));
        chess.undo();
        chess.undo();
        chess.undo();
        Checks.due("20 moves again", chess.count(11) + " " + chess.made(0, 5) + " " + chess.made(19, 5),
            "20 " + ends[1] + " " + ends[20]);
    }

    private static String sending(LanternChess chess, int number) {
        StringBuilder text = new StringBuilder();
        for (int what = 0; what < 8; what++) {
            text.append(chess.sent(number, what)).append(' ');
        }
        return text.toString().trim();
    }

    private static void sent() {
        Checks.says("0 the time at which its message began, 1 the side that sent it, 2 its flashes, 3 those that "
            + "the receiver saw, 4 how the receiver read it (as readsAs), 5 the flashes of the answer, 6 those "
            + "that the sender saw, 7 1 if the move was answered by it, otherwise 0");
        LanternChess chess = Checks.game("game 5 5;wait 9;fog 0 30 1;" + PIECES);
        Checks.due("the second sending is answered", chess.play(0, 0, 0, 4), 2);
        Checks.due("nothing is seen", sending(chess, 0), "0 0 12 0 0 1 0 0");
        Checks.due("it begins behind WAIT", sending(chess, 1), "36 0 12 12 1 4 4 1");
        chess.play(4, 4, 4, 3);
        Checks.due("black's", sending(chess, 2), "66 1 22 22 1 4 4 1");
    }

    private static void sentOfReadings() {
        LanternChess again = Checks.game("game 5 5;wait 0;fog 28 5 1;" + PIECES);
        again.play(2, 0, 3, 1);
        Checks.due("all of the answer is hidden", sending(again, 0), "0 0 16 16 1 5 0 0");
        Checks.due("same", sending(again, 1), "35 0 16 16 2 5 5 1");
        LanternChess other = Checks.game("game 5 5;wait 1;fog 11 1 1;fog 21 1 1;" + PIECES);
        other.play(2, 0, 3, 1);
        Checks.due("misread", sending(other, 0), "0 0 16 14 1 4 4 0");
        Checks.due("put right", sending(other, 1), "35 0 16 16 3 5 5 1");
    }

    private static String move(LanternChess chess, int number) {
        StringBuilder text = new StringBuilder();
        for (int what = 0; what < 6; what++) {
            text.append(chess.made(number, what)).append(' ');
        }
        return text.toString().trim();
    }

    private static void made() {
        Checks.says("0 the side that made it, 1 its first cell, 2 its last cell, 3 the kind that it took on the "
            + "sender's board (NONE without one), 4 how often it was sent, 5 the time behind the pause behind the "
            + "answer");
        LanternChess chess = Checks.game("game 5 5;wait 0;tries 9;fog 0 216 1;" + PIECES);
        chess.play(0, 0, 0, 4);
        Checks.due("nothing is taken, sent nine times", move(chess, 0), "0 0 20 -1 9 246");
        String[] kinds = {"king", "queen", "rook", "bishop", "knight", "pawn"};
        for (int kind = 1; kind < kinds.length; kind++) {
            LanternChess taking = Checks.game("game 4 8;white king 3 0;black king 0 7;white rook 3 7;black "
                + kinds[kind] + " 3 6;");
            taking.play(3, 7, 3, 6);
            Checks.due("a " + kinds[kind] + " is taken", taking.made(0, 3), kind);
            Checks.due("by the move", taking.made(0, 1) + " " + taking.made(0, 2), "31 27");
        }
        LanternChess king = Checks.game("game 4 4;white king 0 0;black king 1 1;white pawn 0 2;");
        king.play(0, 2, 0, 3);
        king.play(1, 1, 0, 0);
        Checks.due("a king is taken", king.made(1, 3) + " " + king.made(1, 0), "0 1");
        Checks.due("a pawn that became a queen took nothing", king.made(0, 3), LanternChess.NONE);
    }

    private static void madeOnTheSendersBoard() {
        // Black's king is at (4, 1) on white's board, at (4, 3) on black's one, which no SUM shows.
        LanternChess chess = Checks.game("game 5 5;white king 0 0;white rook 0 1;white rook 0 3;black king 4 2;"
            + "fog 55 2 1;fog 61 2 1;");
        chess.play(0, 0, 1, 0);
        chess.play(4, 2, 4, 3);
        Checks.due("the cells are those that were played", chess.made(1, 1) + " " + chess.made(1, 2), "14 19");
        chess.play(0, 3, 4, 3);
        Checks.due("a king is taken on the receiver's board alone", chess.made(2, 3), LanternChess.NONE);
        chess.undo();
        chess.play(0, 1, 4, 1);
        Checks.due("a king is taken on the sender's board alone", chess.made(2, 3), 0);
    }

    private static void meanTries() {
        Checks.says("Returns the quotient; 0.0 without such moves.");
        Checks.due("no moves", new LanternChess().meanTries(), 0.0);
        LanternChess dark = Checks.game("game 5 5;fog 0 999 1;" + PIECES);
        dark.play(0, 0, 0, 4);
        Checks.due("a move that is given up", dark.meanTries(), 0.0);
        LanternChess nine = Checks.game("game 5 5;wait 0;tries 9;fog 0 216 1;" + PIECES);
        nine.play(0, 0, 0, 4);
        Checks.due("a move that was sent nine times", nine.meanTries(), 9.0);
        nine.play(4, 4, 4, 3);
        nine.play(0, 4, 0, 3);
        Checks.due("and two that were sent once", nine.meanTries(), 11.0 / 3.0);
    }

    private static void meanOfTheKept() {
        Checks.says("Returns the mean number of sendings of the answered moves that are kept");
        LanternChess chess = Checks.game("game 5 5;clock 9999 9999;wait 0;fog 0 20 1;" + PIECES);
        Checks.due("the first move is sent twice", playRook(chess, 0), 2);
        for (int i = 1; i < 20; i++) {
            playRook(chess, i);
        }
        Checks.due("20 moves", chess.meanTries(), 21.0 / 20.0);
        playRook(chess, 20);
        Checks.due("the first one is not kept any more", chess.meanTries(), 1.0);
        chess.undo();
        Checks.due("it is again", chess.meanTries(), 1.05);
    }

    private static void hiddenShare() {
        Checks.says("Returns the quotient; 0.0 without sendings.");
        Checks.due("no sendings", new LanternChess().hiddenShare(), 0.0f);
        LanternChess clear = new LanternChess();
        clear.play(0, 0, 0, 4);
        Checks.due("nothing is hidden", clear.hiddenShare(), 0.0f);
        LanternChess dark = Checks.game("game 5 5;fog 0 999 1;" + PIECES);
        dark.play(0, 0, 0, 4);
        Checks.due("everything is hidden", dark.hiddenShare(), 1.0f);
        LanternChess answer = Checks.game("game 5 5;tries 1;fog 24 3 1;" + PIECES);
        answer.play(0, 0, 0, 4);
        Checks.due("3 of 12 and 4 flashes, all of the answer", answer.hiddenShare(), 3.0f / 16.0f);
        LanternChess message = Checks.game("game 5 5;tries 1;fog 0 1 1;" + PIECES);
        message.play(0, 0, 0, 4);
        Checks.due("1 of 12 and 1 flashes, of the message", message.hiddenShare(), 1.0f / 13.0f);
        message.play(0, 0, 0, 4);
        Checks.due("1 of 13 and 16 flashes", message.hiddenShare(), 1.0f / 29.0f);
    }

    private static void shareOfTheKept() {
        Checks.says("of all sendings that are kept, the flashes of messages and answers that were not seen and all "
            + "flashes of them, both converted to float and divided.");
        LanternChess chess = Checks.game("game 5 5;clock 9999 9999;tries 1;fog 0 1 1;" + PIECES);
        chess.play(0, 0, 0, 1);
        int all = 0;
        for (int i = 0; i < 19; i++) {
            playRook(chess, i);
        }
        for (int i = 0; i < 20; i++) {
            all += chess.sent(i, 2) + chess.sent(i, 5);
        }
        Checks.due("one flash of 20 sendings", chess.hiddenShare(), 1.0f / (float) all);
        playRook(chess, 19);
        Checks.due("it is not kept any more", chess.hiddenShare(), 0.0f);
    }

    private static void meansBehindOtherGames() {
        LanternChess chess = Checks.game("game 5 5;clock 9999 9999;wait 0;fog 0 20 1;" + PIECES);
        for (int i = 0; i < 5; i++) {
            playRook(chess, i);
        }
        chess.ifPlayed(4, 3, 4, 2, 0);
        Checks.load(chess, "game 5 5;" + PIECES);
        Checks.due("nothing is kept of an earlier game", chess.meanTries() + " " + chess.hiddenShare(), "0.0 0.0");
        chess.play(0, 0, 0, 4);
        Checks.due("one move alone", chess.meanTries() + " " + chess.hiddenShare(), "1.0 0.0");
        LanternChess undone = Checks.game("game 5 5;tries 1;fog 40 5 1;" + PIECES);
        undone.play(0, 0, 0, 4);
        undone.play(2, 4, 1, 3);
        Checks.due("some flashes are hidden", undone.hiddenShare() > 0.0f, true);
        undone.undo();
        Checks.due("nothing is kept of what was undone", undone.hiddenShare(), 0.0f);
    }
}
