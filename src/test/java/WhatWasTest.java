/** Promises 30 to 33: the sendings and the answered moves that are kept. */
public final class WhatWasTest {
    private WhatWasTest() {
    }

    public static void main(String[] args) {
        nothingYet();
        sendings();
        answeredMoves();
        means();
        latestTwenty();
        wrongArguments();
        Checks.end("WhatWasTest");
    }

    /** White's rook is told at once, black's king on the second sending: 4 of its flashes are hidden. */
    private static LanternChess twoMoves() {
        LanternChess chess = new LanternChess();
        chess.play(0, 0, 0, 4);
        chess.think(10);
        chess.addFog(50, 5, 1);
        Checks.due("the second move", chess.play(2, 4, 1, 3), 2);
        return chess;
    }

    private static void nothingYet() {
        LanternChess chess = new LanternChess();
        Checks.dueIndex("sent(0, 0) of nothing", () -> chess.sent(0, 0));
        Checks.dueIndex("made(0, 0) of nothing", () -> chess.made(0, 0));
        Checks.due("meanTries of nothing", chess.meanTries(), 0.0);
        Checks.due("hiddenShare of nothing", chess.hiddenShare(), 0.0f);
    }

    private static void sendings() {
        LanternChess chess = twoMoves();
        int[][] want = {{0, 0, 12, 12, 1, 4, 4, 1}, {40, 1, 19, 15, 0, 1, 1, 0}, {77, 1, 19, 19, 1, 2, 2, 1}};
        Checks.due("sendings kept", chess.count(13), 3);
        for (int i = 0; i < want.length; i++) {
            for (int what = 0; what < 8; what++) {
                Checks.due("sent(" + i + ", " + what + ")", chess.sent(i, what), want[i][what]);
            }
        }
        LanternChess hidden = new LanternChess();
        hidden.addFog(28, 1, 1);
        hidden.play(2, 0, 3, 1);
        int[][] twice = {{0, 0, 16, 16, 1, 5, 4, 0}, {38, 0, 16, 16, 2, 5, 5, 1}};
        for (int i = 0; i < twice.length; i++) {
            for (int what = 0; what < 8; what++) {
                Checks.due("sent(" + i + ", " + what + ") of the same", hidden.sent(i, what), twice[i][what]);
            }
        }
    }

    private static void answeredMoves() {
        LanternChess chess = twoMoves();
        chess.play(0, 4, 4, 4);
        int[][] want = {{0, 0, 20, -1, 1, 30}, {1, 22, 16, -1, 2, 112}, {0, 20, 24, 2, 1, chess.count(2)}};
        Checks.due("answered moves kept", chess.count(14), 3);
        for (int i = 0; i < want.length; i++) {
            for (int what = 0; what < 6; what++) {
                Checks.due("made(" + i + ", " + what + ")", chess.made(i, what), want[i][what]);
            }
        }
        LanternChess king = Checks.game("game 4 4;white king 0 0;black king 1 1;");
        king.play(0, 0, 1, 1);
        Checks.due("a king is taken", king.made(0, 3), 0);
        // The SUM is 6 behind it.
        Checks.due("the answer to that", king.sent(0, 5), 3);
    }

    private static void means() {
        LanternChess chess = twoMoves();
        Checks.due("meanTries", chess.meanTries(), 1.5);
        Checks.due("hiddenShare", chess.hiddenShare(), 4.0f / 57.0f);
        LanternChess third = new LanternChess();
        third.addFog(28, 1, 1);
        third.play(2, 0, 3, 1);
        third.play(4, 4, 4, 3);
        third.play(0, 0, 0, 1);
        Checks.due("meanTries of three moves", third.meanTries(), 4.0 / 3.0);
        LanternChess dark = new LanternChess();
        dark.addFog(0, 999, 1);
        dark.play(0, 0, 0, 4);
        Checks.due("hiddenShare in the dark", dark.hiddenShare(), 1.0f);
        Checks.due("meanTries without an answered move", dark.meanTries(), 0.0);
    }

    private static void playRook(LanternChess chess, int i) {
        boolean isBack = i / 2 % 2 == 1;
        if (i % 2 == 0) {
            Checks.due("move " + i, chess.play(0, isBack ? 1 : 0, 0, isBack ? 0 : 1), 1);
        } else {
            Checks.due("move " + i, chess.play(4, isBack ? 3 : 4, 4, isBack ? 4 : 3), 1);
        }
    }

    private static void latestTwenty() {
        LanternChess chess = new LanternChess();
        for (int i = 0; i < 20; i++) {
            playRook(chess, i);
        }
        Checks.due("20 are kept", "" + chess.count(13) + chess.count(14), "2020");
        Checks.due("the first one is the earliest", chess.sent(0, 0), 0);
        int endOfThird = chess.made(2, 5);
        playRook(chess, 20);
        playRook(chess, 21);
        Checks.due("20 of 22 are kept", "" + chess.count(13) + chess.count(14), "2020");
        Checks.due("22 in all", "" + chess.count(11) + chess.count(12), "2222");
        Checks.due("made(0) is the third", chess.made(0, 0) + "/" + chess.made(0, 1) + "/" + chess.made(0, 2), "0/5/0");
        Checks.due("its end", chess.made(0, 5), endOfThird);
        Checks.due("the fourth begins there", chess.sent(1, 0), endOfThird);
        Checks.due("the latest is told last", chess.made(19, 5), chess.count(2));
        for (int i = 1; i < 20; i++) {
            Checks.due("sending " + i + " begins behind the move ahead", chess.sent(i, 0), chess.made(i - 1, 5));
        }
        Checks.due("the latest one's cells", chess.made(19, 1) + "/" + chess.made(19, 2), "24/19");
        Checks.dueIndex("sent(20, 0)", () -> chess.sent(20, 0));
        Checks.dueIndex("made(20, 0)", () -> chess.made(20, 0));
        chess.undo();
        chess.undo();
        Checks.due("undo brings the earlier ones back", chess.sent(0, 0) + " " + chess.count(11), "0 20");
    }

    private static void wrongArguments() {
        LanternChess chess = twoMoves();
        String before = Checks.state(chess);
        Checks.dueIndex("sent(3, 8)", () -> chess.sent(3, 8));
        Checks.dueIndex("sent(-1, 0)", () -> chess.sent(-1, 0));
        Checks.dueArgument("sent(0, 8)", () -> chess.sent(0, 8));
        Checks.dueArgument("sent(0, -1)", () -> chess.sent(0, -1));
        Checks.dueIndex("made(2, 6)", () -> chess.made(2, 6));
        Checks.dueIndex("made(-1, 0)", () -> chess.made(-1, 0));
        Checks.dueArgument("made(0, 6)", () -> chess.made(0, 6));
        Checks.dueArgument("made(0, -1)", () -> chess.made(0, -1));
        Checks.due("calls that throw change nothing", Checks.state(chess), before);
    }
}
