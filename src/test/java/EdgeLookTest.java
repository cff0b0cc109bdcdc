/** The boundary cases of promises 7 to 19: what there is. */
public final class EdgeLookTest {
    private static final String WIDE = "game 8 4;white king 0 0;black king 7 3;";
    private static final String HIGH = "game 4 8;white king 0 0;black king 3 7;";

    private EdgeLookTest() {
    }

    public static void main(String[] args) {
        count();
        countOfTheEnd();
        clock();
        piece();
        isMove();
        moves();
        moveIndex();
        ranked();
        rankedTies();
        attackers();
        attackersOfKings();
        isInCheck();
        isInCheckWithoutKing();
        material();
        sum();
        differ();
        fewestMoves();
        fewestMovesOfNothing();
        fewestMovesToTake();
        fewestMovesOfPawns();
        Checks.end("EdgeLookTest");
    }

    /** Both towers' boards differ in white's rook: on white's one it is at (0, 4), on black's one at (0, 3). */
    private static LanternChess apart() {
        LanternChess chess = Checks.game("game 5 5;white king 2 0;white rook 0 0;black king 2 4;black rook 4 4;"
            + "fog 12 1 1;fog 19 1 1;");
        Checks.due("a misread move, answered by chance", chess.play(0, 0, 0, 4), 1);
        return chess;
    }

    private static void count() {
        Checks.says("Throws `IllegalArgumentException` if what is out of range");
        LanternChess chess = new LanternChess();
        Checks.dueArgumentRange("count", 0, 15, chess::count);
        LanternChess high = Checks.game(HIGH);
        LanternChess wide = Checks.game(WIDE);
        Checks.due("the width and the height of a high board", high.count(0) + " " + high.count(1), "4 8");
        Checks.due("the width and the height of a wide board", wide.count(0) + " " + wide.count(1), "8 4");
        Checks.due("COUNTs, moves and sendings, none", "" + chess.count(9) + chess.count(10) + chess.count(11)
            + chess.count(12) + chess.count(13) + chess.count(14) + chess.count(15), "0000000");
    }

    private static void countOfTheEnd() {
        Checks.says("4 0 if the game goes on, 1 if white has won, 2 if black has");
        LanternChess chess = new LanternChess();
        Checks.due("the game goes on", chess.count(4), 0);
        chess.resign();
        Checks.due("white resigned", chess.count(4), 2);
        chess.undo();
        Checks.due("the game goes on again", chess.count(4), 0);
        chess.play(0, 0, 0, 1);
        chess.resign();
        Checks.due("black resigned", chess.count(4), 1);
    }

    private static void clock() {
        Checks.says("Throws `IndexOutOfBoundsException` if there is no such side");
        LanternChess chess = Checks.game("game 4 4;clock 1 9999;white king 0 0;black king 3 3;");
        Checks.dueIndexRange("clock", 0, 1, chess::clock);
        Checks.due("the clocks", chess.clock(0) + " " + chess.clock(1), "1 9999");
    }

    private static void piece() {
        Checks.says("Returns its kind, and 6 more if it is black; NONE if the cell is empty.");
        LanternChess chess = Checks.game("game 6 4;white king 0 0;white queen 1 0;white rook 2 0;white bishop 3 0;"
            + "white knight 4 0;white pawn 5 0;black king 0 3;black queen 1 3;black rook 2 3;black bishop 3 3;"
            + "black knight 4 3;black pawn 5 3;");
        for (int kind = 0; kind < 6; kind++) {
            Checks.due("white " + kind, chess.piece(0, kind, 0), kind);
            Checks.due("black " + kind, chess.piece(1, kind, 3), kind + 6);
            Checks.due("empty " + kind, chess.piece(1, kind, 1), LanternChess.NONE);
        }
        Checks.says("Throws `IllegalArgumentException` if the cell is not on the board");
        Checks.dueIndexRange("piece, board", 0, 1, n -> chess.piece(n, 0, 0));
        Checks.dueArgumentRange("piece, x", 0, 5, n -> chess.piece(0, n, 0));
        Checks.dueArgumentRange("piece, y", 0, 3, n -> chess.piece(0, 0, n));
        LanternChess high = Checks.game(HIGH);
        Checks.dueArgumentRange("piece, x of 4 by 8", 0, 3, n -> high.piece(1, n, 7));
        Checks.dueArgumentRange("piece, y of 4 by 8", 0, 7, n -> high.piece(1, 3, n));
        Checks.dueIndex("no board ahead of no cell", () -> chess.piece(2, 9, 9));
    }

    private static void isMove() {
        Checks.says("Tells whether something is a move of a side on a board, whoever is to move.");
        LanternChess chess = apart();
        Checks.due("white's, on its own board", chess.isMove(0, 0, 0, 4, 1, 4), true);
        Checks.due("white's, on black's board", chess.isMove(1, 0, 0, 4, 1, 4), false);
        Checks.due("white's, as black sees it", chess.isMove(1, 0, 0, 3, 4, 3), true);
        Checks.due("black's", chess.isMove(1, 1, 4, 4, 3, 4), true);
        Checks.due("not white's", chess.isMove(1, 0, 4, 4, 3, 4), false);
        chess.resign();
        Checks.due("when the game is over", chess.isMove(1, 1, 4, 4, 3, 4), true);
        Checks.says("Throws `IndexOutOfBoundsException` if there is no such board or side");
        Checks.dueIndexRange("isMove, board", 0, 1, n -> chess.isMove(n, 0, 0, 0, 0, 1));
        Checks.dueIndexRange("isMove, side", 0, 1, n -> chess.isMove(0, n, 0, 0, 0, 1));
        Checks.dueIndex("no board ahead of no cell", () -> chess.isMove(2, 0, 0, 0, 0, 5));
        Checks.dueIndex("no side ahead of no cell", () -> chess.isMove(0, 2, 0, 0, 0, 5));
        Checks.says("Throws `IllegalArgumentException` if one of the cells is not on the board");
        LanternChess high = Checks.game(HIGH);
        LanternChess wide = Checks.game(WIDE);
        Checks.dueCells("isMove of 4 by 8", high, (x, y, toX, toY) -> high.isMove(0, 0, x, y, toX, toY));
        Checks.dueCells("isMove of 8 by 4", wide, (x, y, toX, toY) -> wide.isMove(1, 1, x, y, toX, toY));
    }

    private static void moves() {
        Checks.says("Counts the moves of a side on a board, whoever is to move.");
        LanternChess chess = apart();
        Checks.due("white's on its board", chess.moves(0, 0), 11);
        Checks.due("white's on black's board", chess.moves(1, 0), 13);
        Checks.due("black's on white's board", chess.moves(0, 1), 10);
        Checks.dueIndexRange("moves, board", 0, 1, n -> chess.moves(n, 0));
        Checks.dueIndexRange("moves, side", 0, 1, n -> chess.moves(0, n));
        LanternChess shut = Checks.game("game 4 4;white king 3 3;black king 0 0;black pawn 1 0;black pawn 0 1;"
            + "black pawn 1 1;");
        Checks.due("no moves", shut.moves(0, 1), 0);
        LanternChess most = Checks.game(many("queen"));
        Checks.due("a board full of queens", most.moves(0, 0), manyMoves(most));
    }

    /** A board of 8 by 8 with white's king and 30 pieces of white, with space between them, and black's king. */
    private static String many(String kind) {
        StringBuilder text = new StringBuilder("game 8 8;white king 0 0;black king 7 7;");
        for (int i = 1; i <= 30; i++) {
            text.append("white ").append(kind).append(' ').append(i % 4 * 2).append(' ').append(i / 4).append(';');
        }
        return text.toString();
    }

    private static int manyMoves(LanternChess chess) {
        int moves = 0;
        for (int cells = 0; cells < 64 * 64; cells++) {
            moves += chess.isMove(0, 0, cells & 7, cells >> 3 & 7, cells >> 6 & 7, cells >> 9) ? 1 : 0;
        }
        return moves;
    }

    private static void moveIndex() {
        Checks.says("Throws `IndexOutOfBoundsException` if there is no such board, side or move");
        LanternChess chess = new LanternChess();
        Checks.dueIndexRange("move, index", 0, 9, n -> chess.move(0, 0, n, 0));
        Checks.dueIndexRange("move, board", 0, 1, n -> chess.move(n, 0, 0, 0));
        Checks.dueIndexRange("move, side", 0, 1, n -> chess.move(0, n, 0, 0));
        Checks.dueArgumentRange("move, what", 0, 3, n -> chess.move(0, 0, 0, n));
        Checks.dueIndex("no move ahead of no part", () -> chess.move(0, 0, 10, 4));
        Checks.dueIndex("no board ahead of no part", () -> chess.move(2, 0, 0, 4));
        Checks.dueIndex("no side ahead of no part", () -> chess.move(0, 2, 0, 4));
        LanternChess shut = Checks.game("game 4 4;white king 3 3;black king 0 0;black pawn 1 0;black pawn 0 1;"
            + "black pawn 1 1;");
        Checks.dueIndex("the first one of no moves", () -> shut.move(0, 1, 0, 0));
        LanternChess apart = apart();
        Checks.dueIndexRange("a move of white on its board", 0, 10, n -> apart.move(0, 0, n, 0));
        Checks.dueIndexRange("a move of white on black's board", 0, 12, n -> apart.move(1, 0, n, 0));
    }

    private static void ranked() {
        Checks.says("Throws `IndexOutOfBoundsException` if there are not so many moves");
        LanternChess chess = new LanternChess();
        Checks.dueIndexRange("ranked", 0, 9, n -> chess.ranked(n, 0));
        Checks.dueArgumentRange("ranked, what", 0, 3, n -> chess.ranked(0, n));
        Checks.dueIndex("no rank ahead of no part", () -> chess.ranked(10, 4));
        LanternChess shut = Checks.game("game 4 4;white king 3 3;black king 0 0;black pawn 1 0;black pawn 0 1;"
            + "black pawn 1 1;");
        shut.play(3, 3, 3, 2);
        Checks.due("black is to move", shut.count(3), 1);
        Checks.dueIndex("the first one of no moves", () -> shut.ranked(0, 0));
        Checks.says("Returns a move of the side to move on its own board, by worth.");
        LanternChess apart = apart();
        apart.play(4, 4, 4, 3);
        Checks.due("white is to move", apart.count(3), 0);
        boolean isOwn = false;
        for (int rank = 0; rank < apart.moves(0, 0); rank++) {
            isOwn = isOwn || apart.ranked(rank, 0) == 20;
        }
        Checks.due("white's rook goes from where it is on white's board", isOwn, true);
    }

    private static void rankedTies() {
        Checks.says("0 for the move with the greatest worth, of several the first one in the order, and so on");
        LanternChess chess = Checks.game("game 5 5;white king 0 0;black king 4 4;black pawn 1 0;black pawn 0 1;");
        Checks.due("the greatest worth", chess.ranked(0, 1) + " " + chess.ranked(0, 3), "5 1");
        Checks.due("the middle one", chess.ranked(1, 1) + " " + chess.ranked(1, 3), "6 -8");
        Checks.due("the least one, the first in the order", chess.ranked(2, 1) + " " + chess.ranked(2, 3), "1 -107");
        LanternChess even = Checks.game("game 5 5;white king 2 2;black king 4 4;white pawn 2 1;");
        int moves = even.moves(0, 0);
        String before = "";
        for (int rank = 0; rank < moves; rank++) {
            Checks.due("worths go down, rank " + rank, rank == 0 || even.ranked(rank, 3) <= even.ranked(rank - 1, 3),
                true);
            boolean isTie = rank > 0 && even.ranked(rank, 3) == even.ranked(rank - 1, 3);
            int place = even.ranked(rank, 0) * 25 + even.ranked(rank, 1);
            int ahead = rank == 0 ? -1 : even.ranked(rank - 1, 0) * 25 + even.ranked(rank - 1, 1);
            Checks.due("ties are in order, rank " + rank, !isTie || place > ahead, true);
            before += even.ranked(rank, 3) + " ";
        }
        Checks.due("the worths", before.trim(), "0 0 0 0 0 0 -100");
        LanternChess last = Checks.game("game 4 4;white king 0 0;black king 3 1;white rook 3 0;");
        Checks.due("the greatest worth at the end of the order", last.ranked(0, 0) + " " + last.ranked(0, 3), "3 100");
        Checks.due("the next one", last.ranked(1, 0) + " " + last.ranked(1, 1) + " " + last.ranked(1, 3), "3 1 0");
        Checks.due("the first one of the rest", last.ranked(2, 0) + " " + last.ranked(2, 3), "0 -5");
    }

    private static void attackers() {
        Checks.says("that could move to it if a piece of the other side, no king, stood there (in place of what "
            + "stands there).");
        LanternChess chess = Checks.game("game 5 5;white king 0 0;black king 4 4;white pawn 1 1;white rook 2 0;"
            + "black pawn 2 2;white pawn 3 1;black rook 2 4;");
        Checks.due("a piece of the other side", chess.attackers(0, 0, 2, 2), 3);
        Checks.due("an empty cell, slanting ahead of a pawn", chess.attackers(0, 0, 0, 2), 1);
        Checks.due("an empty cell, straight on", chess.attackers(0, 0, 1, 2), 0);
        Checks.due("a piece of the own side", chess.attackers(0, 0, 1, 1), 1);
        Checks.due("behind a piece", chess.attackers(0, 0, 2, 3), 0);
        Checks.due("a piece of the own side, by black", chess.attackers(0, 1, 2, 2), 1);
        Checks.due("slanting ahead of a pawn of black", chess.attackers(0, 1, 1, 1), 1);
        Checks.due("behind its own pawn", chess.attackers(0, 1, 2, 1), 0);
        Checks.says("Returns how many there are (a piece does not attack its own cell).");
        Checks.due("the cell of a rook", chess.attackers(0, 0, 2, 0), 0);
        Checks.due("the cell of black's rook", chess.attackers(0, 1, 2, 4), 0);
        LanternChess eight = Checks.game("game 5 5;white king 1 1;black king 4 4;white queen 2 1;white rook 3 2;"
            + "white bishop 3 3;white knight 0 3;white pawn 1 2;white queen 2 3;white pawn 3 1;");
        Checks.due("all that stand round a cell, but for the pawn beside it", eight.attackers(0, 0, 2, 2), 7);
        Checks.dueIndexRange("attackers, board", 0, 1, n -> chess.attackers(n, 0, 0, 0));
        Checks.dueIndexRange("attackers, side", 0, 1, n -> chess.attackers(0, n, 0, 0));
        Checks.dueArgumentRange("attackers, x", 0, 4, n -> chess.attackers(0, 0, n, 0));
        Checks.dueArgumentRange("attackers, y", 0, 4, n -> chess.attackers(0, 0, 0, n));
        Checks.dueIndex("no board ahead of no cell", () -> chess.attackers(2, 0, 5, 5));
        Checks.dueIndex("no side ahead of no cell", () -> chess.attackers(0, 2, 5, 5));
    }

    private static void attackersOfKings() {
        Checks.says("Counts the pieces of a side on a board that attack a cell");
        LanternChess chess = Checks.game("game 4 8;white king 0 0;black king 3 7;white rook 0 5;white pawn 0 6;"
            + "black pawn 3 1;");
        Checks.due("the cell of a king", chess.attackers(0, 1, 3, 7), 0);
        Checks.due("the cell of the own king", chess.attackers(0, 0, 0, 0), 1);
        Checks.due("the last row, slanting", chess.attackers(0, 0, 1, 7), 1);
        Checks.due("the first row, slanting", chess.attackers(0, 1, 2, 0), 1);
        Checks.due("round the edge of the board", chess.attackers(0, 0, 3, 6), 0);
        Checks.due("round the other edge", chess.attackers(0, 1, 0, 0), 0);
        LanternChess apart = apart();
        Checks.due("on white's board", apart.attackers(0, 0, 4, 4) + " " + apart.attackers(0, 0, 4, 3), "0 0");
        Checks.due("on black's board", apart.attackers(1, 0, 4, 3), 1);
    }

    private static void isInCheck() {
        Checks.says("Returns whether some move of the other side on this board takes the king of this side.");
        LanternChess chess = apart();
        chess.play(2, 4, 2, 3);
        Checks.due("on black's board the rook takes black's king", chess.isInCheck(1, 1), true);
        Checks.due("on white's board it stands in another row", chess.isInCheck(0, 1), false);
        Checks.due("white's king", "" + chess.isInCheck(0, 0) + chess.isInCheck(1, 0), "falsefalse");
        Checks.dueIndexRange("isInCheck, board", 0, 1, n -> chess.isInCheck(n, 0));
        Checks.dueIndexRange("isInCheck, side", 0, 1, n -> chess.isInCheck(0, n));
        String corner = "game 4 4;white king 0 0;black king 3 3;";
        Checks.due("in the corner", Checks.game(corner + "black bishop 2 2;").isInCheck(0, 0), true);
        Checks.due("the own piece is no danger", Checks.game(corner + "white bishop 2 2;").isInCheck(0, 0), false);
        Checks.due("black in the corner", Checks.game(corner + "white bishop 2 2;").isInCheck(0, 1), true);
        Checks.due("a pawn behind a king of white", Checks.game("game 4 4;white king 1 1;black king 3 3;"
            + "black pawn 0 0;").isInCheck(0, 0), false);
    }

    private static void isInCheckWithoutKing() {
        Checks.says("Tells whether a king could be taken.");
        LanternChess chess = Checks.game("game 4 4;white king 0 0;black king 0 3;white rook 0 1;black rook 3 3;");
        Checks.due("ahead of it", chess.isInCheck(0, 1), true);
        chess.play(0, 1, 0, 3);
        Checks.due("no king", "" + chess.isInCheck(0, 1) + chess.isInCheck(1, 1), "falsefalse");
        Checks.due("the other king", chess.isInCheck(0, 0), false);
    }

    private static void material() {
        Checks.says("Returns the sum of the values.");
        LanternChess chess = Checks.game(many("queen"));
        Checks.due("31 pieces", chess.material(1, 0), 100 + 30 * 9);
        Checks.due("a king alone", chess.material(1, 1), 100);
        Checks.dueIndexRange("material, board", 0, 1, n -> chess.material(n, 0));
        Checks.dueIndexRange("material, side", 0, 1, n -> chess.material(0, n));
    }

    private static void sum() {
        Checks.says("Throws `IndexOutOfBoundsException` if there is no such board");
        LanternChess chess = apart();
        Checks.dueIndexRange("sum", 0, 1, chess::sum);
        Checks.due("the SUMs of boards that differ", chess.sum(0) + " " + chess.sum(1), "452 437");
    }

    private static void differ() {
        Checks.says("1 the smallest cell in which they do (NONE if there is none)");
        LanternChess chess = new LanternChess();
        Checks.dueArgumentRange("differ", 0, 1, chess::differ);
        Checks.due("equal boards", chess.differ(0) + " " + chess.differ(1), "0 -1");
        LanternChess apart = apart();
        Checks.due("boards that differ", apart.differ(0) + " " + apart.differ(1), "2 15");
        LanternChess first = Checks.game("game 4 6;tries 1;white king 0 0;black king 3 5;fog 0 1 1;");
        Checks.due("what is not understood is not made", first.play(0, 0, 0, 1) + " " + first.differ(1), "0 -1");
        LanternChess corner = Checks.game("game 4 6;tries 1;white king 0 0;black king 3 5;fog 25 1 1;");
        Checks.due("white's king left the first cell on black's board", corner.play(0, 0, 0, 1), 0);
        Checks.due("the first cell", corner.differ(0) + " " + corner.differ(1), "2 0");
        LanternChess last = Checks.game("game 4 6;tries 1;white king 3 5;black king 0 0;fog 39 1 1;");
        Checks.due("white's king left the last cell on black's board", last.play(3, 5, 2, 5), 0);
        Checks.due("the last cells", last.differ(0) + " " + last.differ(1), "2 22");
        LanternChess taken = Checks.game("game 4 6;tries 1;white king 0 0;black king 3 5;black rook 1 0;fog 25 1 1;");
        Checks.due("a cell with pieces of both sides", taken.play(0, 0, 1, 0), 0);
        Checks.due("two cells", taken.differ(0) + " " + taken.differ(1), "2 0");
    }

    private static void fewestMoves() {
        Checks.says("Returns the number of moves, 0 for its own cell; NONE if there is no piece, or it cannot come "
            + "there.");
        LanternChess high = Checks.game(HIGH + "white bishop 1 0;black knight 3 0;white rook 2 5;");
        Checks.due("its own cell, the first one", high.fewestMoves(0, 0, 0, 0, 0), 0);
        Checks.due("its own cell, the last one", high.fewestMoves(1, 3, 7, 3, 7), 0);
        Checks.due("a king over the whole board", high.fewestMoves(0, 0, 0, 0, 7), 7);
        Checks.due("black's king to take on the first cell", high.fewestMoves(0, 3, 7, 0, 0), 7);
        Checks.due("a bishop to the other colour", high.fewestMoves(0, 1, 0, 0, 0), LanternChess.NONE);
        Checks.due("a bishop to the last row", high.fewestMoves(0, 1, 0, 0, 7), 4);
        Checks.due("a piece of its side there", high.fewestMoves(0, 1, 0, 2, 5), LanternChess.NONE);
        Checks.due("a knight of black", high.fewestMoves(0, 3, 0, 0, 0), 5);
        LanternChess wide = Checks.game(WIDE + "white rook 3 3;white queen 7 0;");
        Checks.due("a rook on a wide board", wide.fewestMoves(0, 3, 3, 0, 1), 2);
        Checks.due("a queen to the last cell", wide.fewestMoves(0, 7, 0, 7, 3), 1);
        Checks.due("a queen round a piece of its side", wide.fewestMoves(0, 7, 0, 0, 3), 2);
        Checks.due("a king to the other end", wide.fewestMoves(0, 0, 0, 7, 2), 7);
        LanternChess apart = apart();
        Checks.due("on white's board", apart.fewestMoves(0, 0, 4, 0, 0), 1);
        Checks.due("on black's board", apart.fewestMoves(1, 0, 3, 0, 0), 1);
        Checks.due("no such piece on black's board", apart.fewestMoves(1, 0, 4, 0, 0), LanternChess.NONE);
    }

    private static void fewestMovesOfNothing() {
        Checks.says("Finds the fewest moves of one piece from its cell to another one");
        LanternChess high = Checks.game(HIGH);
        Checks.due("no piece", high.fewestMoves(0, 1, 1, 1, 2), LanternChess.NONE);
        Checks.due("no piece, to the same cell", high.fewestMoves(0, 1, 1, 1, 1), LanternChess.NONE);
        Checks.due("no piece, to a piece", high.fewestMoves(0, 1, 1, 0, 0), LanternChess.NONE);
        Checks.dueIndexRange("fewestMoves, board", 0, 1, n -> high.fewestMoves(n, 0, 0, 0, 1));
        Checks.dueIndex("no board ahead of no cell", () -> high.fewestMoves(2, 4, 8, 4, 8));
        Checks.dueCells("fewestMoves of 4 by 8", high, (x, y, toX, toY) -> high.fewestMoves(0, x, y, toX, toY));
        LanternChess wide = Checks.game(WIDE);
        Checks.dueCells("fewestMoves of 8 by 4", wide, (x, y, toX, toY) -> wide.fewestMoves(1, x, y, toX, toY));
    }

    private static void fewestMovesToTake() {
        Checks.says("it passes over empty cells alone (its first cell is one, once it has left it), and on its "
            + "last move alone it may take a piece of the other side.");
        LanternChess wall = Checks.game("game 4 5;white king 3 0;black king 3 4;white rook 0 0;black pawn 0 2;"
            + "black pawn 1 2;black pawn 2 2;black pawn 3 2;");
        Checks.due("it takes on its last move", wall.fewestMoves(0, 0, 0, 3, 2), 3);
        Checks.due("it does not take ahead of that", wall.fewestMoves(0, 0, 0, 0, 4), LanternChess.NONE);
        Checks.due("a king does not either", wall.fewestMoves(0, 3, 0, 3, 4), LanternChess.NONE);
        Checks.due("a king takes at last", wall.fewestMoves(0, 3, 0, 0, 2), 3);
        Checks.due("black's king takes what is white's", wall.fewestMoves(0, 3, 4, 0, 0), LanternChess.NONE);
        Checks.due("black's king to a pawn of black", wall.fewestMoves(0, 3, 4, 3, 2), LanternChess.NONE);
        LanternChess back = Checks.game("game 4 4;white king 3 0;black king 3 3;white bishop 1 0;black pawn 0 1;"
            + "black rook 2 1;");
        Checks.due("a bishop takes at once", back.fewestMoves(0, 1, 0, 2, 1), 1);
        Checks.due("a bishop that would have to take twice", back.fewestMoves(0, 1, 0, 1, 2), LanternChess.NONE);
        LanternChess king = Checks.game("game 4 4;white king 1 1;black king 2 2;white rook 3 0;");
        Checks.due("a king is taken", king.fewestMoves(0, 3, 0, 2, 2), 2);
        Checks.due("black's king takes a king", king.fewestMoves(0, 2, 2, 1, 1), 1);
    }

    private static void fewestMovesOfPawns() {
        Checks.says("A pawn stays a pawn.");
        LanternChess chess = Checks.game("game 4 6;white king 3 0;black king 3 5;white pawn 0 1;black pawn 1 5;"
            + "black pawn 2 4;white pawn 1 0;black pawn 1 3;");
        Checks.due("to the last row", chess.fewestMoves(0, 0, 1, 0, 5), 4);
        Checks.due("to take on the last row", chess.fewestMoves(0, 0, 1, 1, 5), 4);
        Checks.due("no queen goes on", chess.fewestMoves(0, 0, 1, 2, 5), LanternChess.NONE);
        Checks.due("slanting to an empty cell", chess.fewestMoves(0, 0, 1, 1, 2), LanternChess.NONE);
        Checks.due("slanting to take", chess.fewestMoves(0, 0, 1, 1, 3), 2);
        Checks.due("straight on to a piece", chess.fewestMoves(0, 1, 0, 1, 3), LanternChess.NONE);
        Checks.due("two pieces to take", chess.fewestMoves(0, 0, 1, 2, 4), LanternChess.NONE);
        Checks.due("black's to the first row", chess.fewestMoves(0, 2, 4, 2, 0), 4);
        Checks.due("black's takes on the first row", chess.fewestMoves(0, 2, 4, 3, 0), 4);
        Checks.due("black's does not go back", chess.fewestMoves(0, 2, 4, 2, 5), LanternChess.NONE);
    }
}
