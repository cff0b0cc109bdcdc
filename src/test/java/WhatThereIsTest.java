/** Promises 7 to 19: numbers of the whole, pieces, moves and their order, attacks, sums, ways. */
public final class WhatThereIsTest {
    private static final String QUEENING = "game 4 4;clock 10 99;white king 0 0;black king 3 3;"
        + "white pawn 1 2;black queen 0 3;pause 1;";
    private static final String MIDDLE = "game 8 8;white king 0 0;black king 7 7;white pawn 3 3;black pawn 3 4;"
        + "black rook 4 4;white knight 1 0;black bishop 6 6;white queen 0 7;black pawn 7 1;white pawn 5 7;";

    private static final String FAR = "game 8 8;white king 0 0;black king 7 6;black bishop 7 7;";

    private WhatThereIsTest() {
    }

    public static void main(String[] args) {
        counts();
        clocks();
        pieces();
        isMove();
        movesInOrder();
        gains();
        worthOfKings();
        ranked();
        attackers();
        isInCheck();
        materialAndSum();
        differ();
        fewestMoves();
        wrongArguments();
        Checks.end("WhatThereIsTest");
    }

    private static void counts() {
        LanternChess chess = new LanternChess();
        chess.set(5, 2);
        chess.addFog(700, 1, 1);
        chess.play(0, 0, 0, 4);
        int[] want = {5, 5, 30, 1, 0, 2, 3, 4, 1, 1, 1, 1, 1, 1, 1, 3};
        for (int what = 0; what < want.length; what++) {
            Checks.due("count(" + what + ")", chess.count(what), want[what]);
        }
        chess.resign();
        Checks.due("count(4) when white has won", chess.count(4), 1);
        LanternChess lost = new LanternChess();
        lost.resign();
        Checks.due("count(4) when black has won", lost.count(4), 2);
        LanternChess wide = Checks.game("game 4 7;white king 0 0;black king 3 6;pause 4;wait 8;tries 6;");
        Checks.due("count(0) is the width", wide.count(0), 4);
        Checks.due("count(1) is the height", wide.count(1), 7);
        Checks.due("count(5), count(6), count(7)", "" + wide.count(5) + wide.count(6) + wide.count(7), "486");
    }

    private static void clocks() {
        LanternChess chess = Checks.game("game 4 4;clock 123 45;white king 0 0;black king 3 3;");
        Checks.due("clock(0)", chess.clock(0), 123);
        Checks.due("clock(1)", chess.clock(1), 45);
        chess.think(3);
        Checks.due("clock(0) behind think", chess.clock(0), 120);
    }

    private static void pieces() {
        LanternChess chess = Checks.game(MIDDLE);
        Checks.due("piece white king", chess.piece(0, 0, 0), 0);
        Checks.due("piece white queen", chess.piece(1, 0, 7), 1);
        Checks.due("piece white knight", chess.piece(0, 1, 0), 4);
        Checks.due("piece white pawn on its last row", chess.piece(0, 5, 7), 5);
        Checks.due("piece black king", chess.piece(1, 7, 7), 6);
        Checks.due("piece black rook", chess.piece(0, 4, 4), 8);
        Checks.due("piece black bishop", chess.piece(0, 6, 6), 9);
        Checks.due("piece black pawn", chess.piece(1, 3, 4), 11);
        Checks.due("piece of an empty cell", chess.piece(0, 2, 2), LanternChess.NONE);
    }

    private static void move(LanternChess chess, int side, String cells, boolean want) {
        int[] c = {cells.charAt(0) - '0', cells.charAt(1) - '0', cells.charAt(2) - '0', cells.charAt(3) - '0'};
        Checks.due("isMove of " + side + " " + cells, chess.isMove(0, side, c[0], c[1], c[2], c[3]), want);
    }

    private static void isMove() {
        LanternChess chess = Checks.game(MIDDLE);
        move(chess, 0, "0011", true);
        move(chess, 0, "0001", true);
        move(chess, 0, "0010", false);
        move(chess, 0, "0002", false);
        move(chess, 0, "0000", false);
        move(chess, 0, "1022", true);
        move(chess, 0, "1031", true);
        move(chess, 0, "1002", true);
        move(chess, 0, "1021", false);
        move(chess, 0, "3334", false);
        move(chess, 0, "3344", true);
        move(chess, 0, "3324", false);
        move(chess, 0, "3332", false);
        move(chess, 0, "5756", false);
        move(chess, 0, "0757", false);
        move(chess, 0, "0747", true);
        move(chess, 0, "0767", false);
        move(chess, 0, "0770", false);
        move(chess, 0, "0734", true);
        move(chess, 0, "0743", false);
        move(chess, 0, "0725", true);
        move(chess, 0, "0726", false);
        move(chess, 1, "4433", false);
        move(chess, 1, "4440", true);
        move(chess, 1, "4434", false);
        move(chess, 1, "4447", true);
        move(chess, 1, "4455", false);
        move(chess, 1, "6600", false);
        move(chess, 1, "6655", true);
        move(chess, 1, "6677", false);
        move(chess, 1, "6665", false);
        move(chess, 1, "7170", true);
        move(chess, 1, "7172", false);
        move(chess, 1, "3433", false);
        move(chess, 0, "4440", false);
        move(chess, 1, "2223", false);
    }

    private static String listed(LanternChess chess, int side) {
        StringBuilder text = new StringBuilder();
        for (int i = 0; i < chess.moves(0, side); i++) {
            for (int what = 0; what < 4; what++) {
                text.append(chess.move(0, side, i, what)).append(what < 3 ? '/' : ' ');
            }
        }
        return text.toString();
    }

    private static void movesInOrder() {
        LanternChess chess = Checks.game(QUEENING);
        Checks.due("moves(0, 0)", chess.moves(0, 0), 5);
        Checks.due("the moves in order", listed(chess, 0), "0/1/0/-1 0/4/0/-100 0/5/0/-1 9/12/17/17 9/13/8/-92 ");
        Checks.due("black is not to move", chess.moves(1, 1), 9);
        Checks.due("black's moves", listed(chess, 1), "12/0/100/100 12/4/0/-9 12/8/0/-8 12/9/1/1 12/13/0/0 "
            + "12/14/0/-17 15/10/0/-17 15/11/0/-17 15/14/0/-108 ");
    }

    private static void gains() {
        LanternChess chess = Checks.game("game 5 5;white king 0 0;black king 4 4;white pawn 1 3;black rook 2 4;"
            + "black pawn 3 1;white bishop 4 0;white knight 2 0;black knight 0 3;");
        Checks.due("gain of taking a rook and queening", gain(chess, 0, 16, 22), 13);
        Checks.due("gain of queening", gain(chess, 0, 16, 21), 8);
        Checks.due("gain of taking a bishop and queening", gain(chess, 1, 8, 4), 11);
        Checks.due("gain of taking a knight and queening", gain(chess, 1, 8, 2), 11);
        Checks.due("gain of black queening", gain(chess, 1, 8, 3), 8);
        Checks.due("gain of taking a pawn", gain(chess, 0, 4, 8), 1);
        Checks.due("gain of nothing", gain(chess, 0, 0, 1), 0);
    }

    private static void worthOfKings() {
        String text = "game 4 4;white king 0 0;black king 3 3;white queen 3 0;black rook 0 3;";
        LanternChess chess = Checks.game(text);
        Checks.due("white takes the king", chess.ranked(0, 1) + " " + chess.ranked(0, 3), "15 100");
        Checks.due("white's king is left", chess.ranked(1, 3), 5);
        Checks.due("black takes the king", worth(chess, 1, 12, 0), 100);
        Checks.due("black's king is left", worth(chess, 1, 12, 13), -100);
    }

    private static int worth(LanternChess chess, int side, int from, int to) {
        for (int i = 0; i < chess.moves(1, side); i++) {
            if (chess.move(1, side, i, 0) == from && chess.move(1, side, i, 1) == to) {
                return chess.move(1, side, i, 3);
            }
        }
        return -1000;
    }

    private static int gain(LanternChess chess, int side, int from, int to) {
        for (int i = 0; i < chess.moves(0, side); i++) {
            if (chess.move(0, side, i, 0) == from && chess.move(0, side, i, 1) == to) {
                return chess.move(0, side, i, 2);
            }
        }
        return -1000;
    }

    private static void ranked() {
        LanternChess chess = Checks.game(QUEENING);
        String[] want = {"9/12/17/17", "0/1/0/-1", "0/5/0/-1", "9/13/8/-92", "0/4/0/-100"};
        for (int rank = 0; rank < 5; rank++) {
            String got = chess.ranked(rank, 0) + "/" + chess.ranked(rank, 1) + "/" + chess.ranked(rank, 2) + "/"
                + chess.ranked(rank, 3);
            Checks.due("ranked(" + rank + ")", got, want[rank]);
        }
        Checks.dueIndex("ranked(5, 0)", () -> chess.ranked(5, 0));
        LanternChess black = new LanternChess();
        black.play(0, 0, 0, 4);
        Checks.due("ranked is of the side to move", black.ranked(0, 0) >= 20, true);
        black.undo();
        black.resign();
        Checks.due("ranked when the game is over", black.ranked(0, 1), 1);
    }

    private static void attackers() {
        LanternChess chess = Checks.game(MIDDLE);
        Checks.due("a pawn attacks slanting", chess.attackers(0, 0, 4, 4), 1);
        Checks.due("a pawn attacks an empty cell too", chess.attackers(0, 0, 2, 4), 1);
        Checks.due("a pawn does not attack straight on", chess.attackers(0, 0, 3, 4), 1);
        Checks.due("the own piece there is replaced", chess.attackers(0, 0, 1, 0), 1);
        Checks.due("no piece attacks its own cell, the queen does", chess.attackers(0, 0, 0, 0), 1);
        Checks.due("black's attackers", chess.attackers(1, 1, 3, 4), 1);
        Checks.due("a king's cell, of its own side", chess.attackers(0, 1, 7, 7), 1);
        Checks.due("a piece of its own side stands between", chess.attackers(0, 1, 0, 0), 0);
        Checks.due("a bishop far off", Checks.game(FAR).attackers(0, 1, 0, 0), 1);
        Checks.due("the second piece in a row is behind the first", new LanternChess().attackers(0, 0, 3, 0), 1);
    }

    private static void isInCheck() {
        LanternChess chess = Checks.game(MIDDLE);
        Checks.due("a bishop gives check", Checks.game(FAR).isInCheck(0, 0), true);
        Checks.due("a rook stands between", chess.isInCheck(0, 0), false);
        Checks.due("the row is shut", chess.isInCheck(0, 1), false);
        LanternChess pawns = Checks.game("game 5 5;white king 2 2;black king 3 3;black pawn 2 3;white pawn 2 1;");
        Checks.due("kings stand side by side", pawns.isInCheck(1, 0), true);
        LanternChess apart = Checks.game("game 5 5;white king 2 2;black king 4 4;black pawn 2 3;white pawn 4 3;");
        Checks.due("a pawn straight on gives no check, white", apart.isInCheck(0, 0), false);
        Checks.due("a pawn straight on gives no check, black", apart.isInCheck(0, 1), false);
        LanternChess slant = Checks.game("game 5 5;white king 2 2;black king 4 4;black pawn 1 3;white pawn 3 3;");
        Checks.due("a pawn slanting gives check, white", slant.isInCheck(0, 0), true);
        Checks.due("a pawn slanting gives check, black", slant.isInCheck(0, 1), true);
    }

    private static void materialAndSum() {
        LanternChess chess = Checks.game(MIDDLE);
        Checks.due("material(0, 0)", chess.material(0, 0), 114);
        Checks.due("material(1, 1)", chess.material(1, 1), 110);
        Checks.due("sum of a new object", new LanternChess().sum(1), 392);
        // 1*1 + 16*7 + 10*6 + 13*8
        Checks.due("sum", Checks.game(QUEENING).sum(0), 277);
    }

    private static LanternChess givenUp() {
        LanternChess chess = new LanternChess();
        chess.set(7, 1);
        chess.addFog(28, 1, 1);
        Checks.due("a move that is not answered", chess.play(2, 0, 3, 1), 0);
        return chess;
    }

    private static void differ() {
        LanternChess chess = new LanternChess();
        Checks.due("differ(0) of equal boards", chess.differ(0), 0);
        Checks.due("differ(1) of equal boards", chess.differ(1), LanternChess.NONE);
        LanternChess apart = givenUp();
        Checks.due("differ(0)", apart.differ(0), 2);
        Checks.due("differ(1)", apart.differ(1), 2);
        Checks.due("sum of the sender's board", apart.sum(0), 392);
        Checks.due("sum of the receiver's board", apart.sum(1), 398);
        Checks.due("isMove on the sender's board", apart.isMove(0, 0, 2, 0, 3, 0), true);
        Checks.due("isMove on the receiver's board", apart.isMove(1, 0, 2, 0, 3, 0), false);
        Checks.due("fewestMoves on the receiver's board", apart.fewestMoves(1, 0, 0, 4, 0), 1);
    }

    private static void fewestMoves() {
        LanternChess chess = new LanternChess();
        Checks.due("a rook round its king", chess.fewestMoves(0, 0, 0, 4, 0), 3);
        Checks.due("a king takes", chess.fewestMoves(0, 2, 0, 2, 4), 4);
        Checks.due("no piece", chess.fewestMoves(0, 1, 1, 2, 2), LanternChess.NONE);
        Checks.due("no piece, the same cell", chess.fewestMoves(0, 1, 1, 1, 1), LanternChess.NONE);
        Checks.due("a piece of its side there", chess.fewestMoves(0, 0, 0, 2, 0), LanternChess.NONE);
        Checks.due("its own cell", chess.fewestMoves(0, 4, 4, 4, 4), 0);
        LanternChess more = Checks.game("game 4 5;white king 0 0;black king 3 4;white pawn 1 1;black pawn 2 3;"
            + "white bishop 3 0;white knight 0 1;black rook 1 4;");
        Checks.due("a pawn to its last empty cell", more.fewestMoves(0, 1, 1, 1, 3), 2);
        Checks.due("a pawn is stopped", more.fewestMoves(0, 1, 1, 1, 4), LanternChess.NONE);
        Checks.due("a pawn takes on its last move", more.fewestMoves(0, 1, 1, 2, 3), 2);
        Checks.due("a pawn does not take twice", more.fewestMoves(0, 1, 1, 3, 4), LanternChess.NONE);
        Checks.due("a pawn does not go back", more.fewestMoves(0, 1, 1, 1, 0), LanternChess.NONE);
        Checks.due("a pawn stays a pawn", Checks.game("game 4 5;white king 0 0;black king 3 4;white pawn 1 3;")
            .fewestMoves(0, 1, 3, 1, 0), LanternChess.NONE);
        Checks.due("a bishop on its colour", more.fewestMoves(0, 3, 0, 0, 3), 1);
        Checks.due("a bishop off its colour", more.fewestMoves(0, 3, 0, 2, 0), LanternChess.NONE);
        Checks.due("a knight", more.fewestMoves(0, 0, 1, 3, 0), LanternChess.NONE);
        Checks.due("a knight jumps", more.fewestMoves(0, 0, 1, 1, 3), 1);
        Checks.due("a knight in three moves", more.fewestMoves(0, 0, 1, 0, 4), 3);
        Checks.due("a black pawn", more.fewestMoves(0, 2, 3, 1, 1), 2);
        LanternChess shut = Checks.game("game 5 5;white king 0 4;black king 4 4;white rook 0 0;black pawn 2 0;");
        Checks.due("a rook round a piece of the other side", shut.fewestMoves(0, 0, 0, 4, 0), 3);
        Checks.due("a rook takes", shut.fewestMoves(0, 0, 0, 2, 0), 1);
    }

    private static void wrongArguments() {
        LanternChess chess = new LanternChess();
        String before = Checks.state(chess);
        Checks.dueArgument("count(-1)", () -> chess.count(-1));
        Checks.dueArgument("count(16)", () -> chess.count(16));
        Checks.dueIndex("clock(2)", () -> chess.clock(2));
        Checks.dueIndex("clock(-1)", () -> chess.clock(-1));
        Checks.dueIndex("piece(2, 9, 9)", () -> chess.piece(2, 9, 9));
        Checks.dueArgument("piece(0, 5, 0)", () -> chess.piece(0, 5, 0));
        Checks.dueArgument("piece(0, 0, -1)", () -> chess.piece(0, 0, -1));
        Checks.dueIndex("isMove(0, 2, 9, 9, 9, 9)", () -> chess.isMove(0, 2, 9, 9, 9, 9));
        Checks.dueIndex("isMove(-1, 0, 0, 0, 0, 1)", () -> chess.isMove(-1, 0, 0, 0, 0, 1));
        Checks.dueArgument("isMove(0, 0, 0, 0, 0, 5)", () -> chess.isMove(0, 0, 0, 0, 0, 5));
        Checks.dueArgument("isMove(0, 0, -1, 0, 0, 1)", () -> chess.isMove(0, 0, -1, 0, 0, 1));
        Checks.dueIndex("moves(2, 0)", () -> chess.moves(2, 0));
        Checks.dueIndex("moves(0, 2)", () -> chess.moves(0, 2));
        Checks.dueIndex("move(0, 0, 10, 9)", () -> chess.move(0, 0, 10, 9));
        Checks.dueIndex("move(0, 0, -1, 0)", () -> chess.move(0, 0, -1, 0));
        Checks.dueIndex("move(0, 3, 0, 0)", () -> chess.move(0, 3, 0, 0));
        Checks.dueIndex("move(2, 0, 0, 0)", () -> chess.move(2, 0, 0, 0));
        Checks.dueArgument("move(0, 0, 0, 4)", () -> chess.move(0, 0, 0, 4));
        Checks.dueArgument("move(0, 0, 0, -1)", () -> chess.move(0, 0, 0, -1));
        Checks.dueIndex("ranked(10, 9)", () -> chess.ranked(10, 9));
        Checks.dueIndex("ranked(-1, 0)", () -> chess.ranked(-1, 0));
        Checks.dueArgument("ranked(0, 4)", () -> chess.ranked(0, 4));
        Checks.dueIndex("attackers(0, 2, 9, 9)", () -> chess.attackers(0, 2, 9, 9));
        Checks.dueIndex("attackers(2, 0, 0, 0)", () -> chess.attackers(2, 0, 0, 0));
        Checks.dueArgument("attackers(0, 0, 5, 4)", () -> chess.attackers(0, 0, 5, 4));
        Checks.dueIndex("isInCheck(2, 0)", () -> chess.isInCheck(2, 0));
        Checks.dueIndex("isInCheck(0, -1)", () -> chess.isInCheck(0, -1));
        Checks.dueIndex("material(2, 0)", () -> chess.material(2, 0));
        Checks.dueIndex("material(0, 2)", () -> chess.material(0, 2));
        Checks.dueIndex("sum(-1)", () -> chess.sum(-1));
        Checks.dueArgument("differ(2)", () -> chess.differ(2));
        Checks.dueArgument("differ(-1)", () -> chess.differ(-1));
        Checks.dueIndex("fewestMoves(2, 9, 9, 9, 9)", () -> chess.fewestMoves(2, 9, 9, 9, 9));
        Checks.dueArgument("fewestMoves(0, 0, 0, 5, 0)", () -> chess.fewestMoves(0, 0, 0, 5, 0));
        Checks.dueArgument("fewestMoves(0, 0, 5, 0, 0)", () -> chess.fewestMoves(0, 0, 5, 0, 0));
        Checks.due("calls that throw change nothing", Checks.state(chess), before);
    }
}
