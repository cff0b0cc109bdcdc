/** The boundary cases of section 1 of the document: boards, pieces, moves, gains, worths and the SUM. */
public final class EdgeBoardTest {
    private EdgeBoardTest() {
    }

    public static void main(String[] args) {
        sizes();
        numbersOfCells();
        values();
        movesToOtherCells();
        kings();
        straightMoves();
        slantingMoves();
        knights();
        pawns();
        pawnsAtEdges();
        queening();
        pawnsOfTexts();
        kingsLeft();
        order();
        gains();
        worths();
        sums();
        Checks.end("EdgeBoardTest");
    }

    /** Checks all last cells to which a piece may move, in their order, each told by its x and its y. */
    private static void targets(LanternChess chess, int side, String cell, String want) {
        int x = Checks.digit(cell, 0);
        int y = Checks.digit(cell, 1);
        int width = chess.count(0);
        StringBuilder allowed = new StringBuilder();
        for (int to = 0; to < width * chess.count(1); to++) {
            if (chess.isMove(0, side, x, y, to % width, to / width)) {
                allowed.append(to % width).append(to / width).append(' ');
            }
        }
        StringBuilder listed = new StringBuilder();
        for (int i = 0; i < chess.moves(0, side); i++) {
            int to = chess.move(0, side, i, 1);
            if (chess.move(0, side, i, 0) == x + width * y) {
                listed.append(to % width).append(to / width).append(' ');
            }
        }
        Checks.due("isMove from " + cell, allowed.toString().trim(), want);
        Checks.due("the moves from " + cell, listed.toString().trim(), want);
    }

    private static void sizes() {
        Checks.says("Both are 4 to 8 cells wide and 4 to 8 high");
        for (int wide = 3; wide <= 9; wide++) {
            for (int high = 3; high <= 9; high++) {
                LanternChess chess = new LanternChess();
                boolean fits = wide > 3 && wide < 9 && high > 3 && high < 9;
                String text = "game " + wide + " " + high + ";white king 0 0;black king 3 3;";
                Checks.due(text, Checks.load(chess, text), fits ? 2 : LanternChess.NONE);
                int cells = fits ? wide * high : 25;
                Checks.due("the cells behind " + text, chess.count(0) * chess.count(1), cells);
            }
        }
    }

    private static void numbersOfCells() {
        Checks.says("a cell has x from 0 to the right and y from 0 upwards, and is told by the number x plus the "
            + "width times y");
        LanternChess high = Checks.game("game 4 8;white king 3 7;black king 0 0;white rook 3 0;");
        Checks.due("the first cell of the last move", high.move(0, 0, high.moves(0, 0) - 1, 0), 31);
        Checks.due("the last cell of the last move", high.move(0, 0, high.moves(0, 0) - 1, 1), 30);
        Checks.due("the first cell of the first move", high.move(0, 0, 0, 0), 3);
        Checks.due("the first cell of black's first move", high.move(0, 1, 0, 0), 0);
        Checks.due("white's king", high.piece(0, 3, 7), 0);
        high.play(3, 0, 3, 1);
        Checks.due("made", high.made(0, 1) + " " + high.made(0, 2), "3 7");
        LanternChess wide = Checks.game("game 8 4;white king 7 3;black king 0 0;white rook 7 0;");
        Checks.due("the first cell of the last move, wide", wide.move(0, 0, wide.moves(0, 0) - 1, 0), 31);
        Checks.due("the first cell of the first move, wide", wide.move(0, 0, 0, 0), 7);
        wide.play(7, 0, 7, 1);
        Checks.due("made, wide", wide.made(0, 1) + " " + wide.made(0, 2), "7 15");
        Checks.due("ranked is of black", wide.ranked(0, 0), 0);
    }

    private static void values() {
        Checks.says("Their values are 100, 9, 5, 3, 3 and 1.");
        String[] kinds = {"queen", "rook", "bishop", "knight", "pawn"};
        int[] values = {9, 5, 3, 3, 1};
        for (int i = 0; i < kinds.length; i++) {
            LanternChess chess = Checks.game("game 4 4;white king 0 0;black king 3 3;white " + kinds[i] + " 0 3;"
                + "black " + kinds[i] + " 3 0;");
            Checks.due("material of white's king and " + kinds[i], chess.material(0, 0), 100 + values[i]);
            Checks.due("material of black's king and " + kinds[i], chess.material(1, 1), 100 + values[i]);
        }
        LanternChess alone = Checks.game("game 4 4;white king 0 0;black king 1 1;");
        Checks.due("material of a king alone", alone.material(0, 1), 100);
        alone.play(0, 0, 1, 1);
        Checks.due("material of nothing", "" + alone.material(0, 1) + alone.material(1, 1), "00");
    }

    private static void movesToOtherCells() {
        Checks.says("A move takes a piece of a side from its cell to another one, on which there is no piece of "
            + "this side; a piece of the other side there is taken.");
        LanternChess chess = Checks.game("game 4 4;white king 0 0;white rook 1 0;black rook 0 1;black king 3 3;");
        Checks.due("to its own cell", chess.isMove(0, 0, 0, 0, 0, 0), false);
        Checks.due("to a piece of its side", chess.isMove(0, 0, 0, 0, 1, 0), false);
        Checks.due("to a piece of the other side", chess.isMove(0, 0, 0, 0, 0, 1), true);
        Checks.due("of a piece of the other side", chess.isMove(0, 0, 0, 1, 0, 2), false);
        Checks.due("of no piece", chess.isMove(0, 0, 2, 2, 2, 3), false);
        chess.play(0, 0, 0, 1);
        Checks.due("there is at most one piece on a cell", chess.piece(0, 0, 1) + " " + chess.material(0, 1), "0 100");
        Checks.due("the first cell is empty", chess.piece(0, 0, 0), LanternChess.NONE);
    }

    private static void kings() {
        Checks.says("A king moves by one cell in each of the eight directions.");
        LanternChess middle = Checks.game("game 5 5;white king 2 2;black king 0 4;");
        targets(middle, 0, "22", "11 21 31 12 32 13 23 33");
        targets(middle, 1, "04", "03 13 14");
        LanternChess high = Checks.game("game 4 8;white king 3 0;black king 0 7;");
        targets(high, 0, "30", "20 21 31");
        targets(high, 1, "07", "06 16 17");
        LanternChess wide = Checks.game("game 8 4;white king 7 3;black king 0 1;");
        targets(wide, 0, "73", "62 72 63");
        targets(wide, 1, "01", "00 10 11 02 12");
    }

    private static void straightMoves() {
        Checks.says("A rook moves along its row or its column, a bishop along its diagonals, a queen along all of "
            + "these, all of them over empty cells alone.");
        String kings = "white king 0 0;black king 0 7;";
        targets(Checks.game("game 4 8;white rook 3 3;" + kings), 0, "33", "30 31 32 03 13 23 34 35 36 37");
        targets(Checks.game("game 4 8;white rook 3 3;white pawn 3 5;black pawn 1 3;" + kings), 0, "33",
            "30 31 32 13 23 34");
        targets(Checks.game("game 8 8;black rook 7 0;" + kings), 1, "70",
            "00 10 20 30 40 50 60 71 72 73 74 75 76 77");
        targets(Checks.game("game 8 8;white rook 7 1;black rook 7 2;black rook 6 1;" + kings), 0, "71", "70 61 72");
        LanternChess shut = Checks.game("game 4 4;white king 0 0;white rook 1 0;white pawn 0 1;white knight 1 1;"
            + "black king 3 3;");
        targets(shut, 0, "00", "");
        targets(shut, 0, "10", "20 30");
    }

    private static void slantingMoves() {
        String kings = "white king 0 2;black king 7 1;";
        targets(Checks.game("game 8 4;white bishop 3 0;" + kings), 0, "30", "21 41 12 52 03 63");
        targets(Checks.game("game 8 4;white bishop 3 0;white pawn 1 2;black pawn 4 1;" + kings), 0, "30", "21 41");
        targets(Checks.game("game 8 8;black bishop 0 0;" + kings), 1, "00", "11 22 33 44 55 66 77");
        targets(Checks.game("game 8 8;black bishop 7 0;white knight 4 3;" + kings), 1, "70", "61 52 43");
        targets(Checks.game("game 4 4;white queen 0 0;white king 1 2;black king 2 3;"), 0, "00",
            "10 20 30 01 11 02 22 03 33");
        targets(Checks.game("game 8 8;black queen 7 7;white king 0 1;black king 1 0;white pawn 6 7;black pawn 6 6;"), 1,
            "77", "70 71 72 73 74 75 76 67");
    }

    private static void knights() {
        Checks.says("A knight moves by one cell in one direction (along x or y) and by two in the other one, "
            + "whatever stands between.");
        targets(Checks.game("game 5 5;white knight 2 2;white king 0 0;black king 4 4;"), 0, "22",
            "10 30 01 41 03 43 14 34");
        targets(Checks.game("game 5 5;white knight 0 0;white king 0 1;black king 1 1;black rook 1 0;"), 0, "00",
            "21 12");
        targets(Checks.game("game 4 8;white knight 3 1;white king 0 0;black king 0 7;"), 0, "31", "10 12 23");
        targets(Checks.game("game 8 8;black knight 0 7;white king 0 0;black king 7 7;"), 1, "07", "15 26");
        targets(Checks.game("game 8 8;black knight 6 7;white king 7 5;black king 5 5;"), 1, "67", "75 46");
    }

    private static void pawns() {
        Checks.says("straight on only to an empty cell, slanting (x by one, too) only to take.");
        String kings = "white king 0 0;black king 4 4;";
        targets(Checks.game("game 5 5;white pawn 2 1;" + kings), 0, "21", "22");
        targets(Checks.game("game 5 5;white pawn 2 1;black rook 1 2;black pawn 3 2;" + kings), 0, "21", "12 22 32");
        targets(Checks.game("game 5 5;white pawn 2 1;white rook 1 2;white pawn 3 2;" + kings), 0, "21", "22");
        targets(Checks.game("game 5 5;white pawn 2 1;black pawn 2 2;" + kings), 0, "21", "");
        targets(Checks.game("game 5 5;white pawn 2 1;white knight 2 2;" + kings), 0, "21", "");
        targets(Checks.game("game 5 5;white pawn 2 1;black rook 1 1;black rook 3 1;black rook 1 0;black rook 3 0;"
            + "black rook 2 3;" + kings), 0, "21", "22");
        targets(Checks.game("game 5 5;black pawn 2 3;" + kings), 1, "23", "22");
        targets(Checks.game("game 5 5;black pawn 2 3;white rook 1 2;white pawn 3 2;" + kings), 1, "23", "12 22 32");
        targets(Checks.game("game 5 5;black pawn 2 3;black rook 1 2;white pawn 2 2;" + kings), 1, "23", "");
        targets(Checks.game("game 5 5;black pawn 2 3;white rook 1 4;white rook 3 4;white rook 1 3;white rook 3 3;"
            + "white rook 2 1;" + kings), 1, "23", "22");
    }

    private static void pawnsAtEdges() {
        String row = "white king 4 4;black king 6 6;";
        targets(Checks.game("game 8 8;white pawn 0 1;black rook 7 1;black rook 7 2;black rook 7 0;" + row), 0, "01",
            "02");
        targets(Checks.game("game 8 8;white pawn 7 1;black rook 0 2;black rook 0 3;black rook 0 1;" + row), 0, "71",
            "72");
        targets(Checks.game("game 8 8;black pawn 0 3;white rook 7 2;white rook 7 1;white rook 7 3;" + row), 1, "03",
            "02");
        targets(Checks.game("game 8 8;black pawn 7 3;white rook 0 2;white rook 0 3;white rook 0 4;" + row), 1, "73",
            "72");
        targets(Checks.game("game 4 5;white pawn 3 1;black rook 0 2;black rook 0 3;white king 3 4;black king 2 4;"), 0,
            "31", "32");
        targets(Checks.game("game 4 5;white pawn 0 1;black rook 1 2;black rook 3 1;white king 3 4;black king 2 4;"), 0,
            "01", "02 12");
    }

    private static void queens(LanternChess chess, String cells, int want) {
        int toX = Checks.digit(cells, 2);
        int toY = Checks.digit(cells, 3);
        Checks.due("play " + cells, Checks.play(chess, cells), 1);
        Checks.due("the piece of both boards behind " + cells,
            chess.piece(0, toX, toY) + " " + chess.piece(1, toX, toY), want + " " + want);
    }

    private static void queening() {
        Checks.says("A pawn that comes to the last row in its direction by a move becomes a queen");
        LanternChess high = Checks.game("game 4 8;white king 0 0;black king 0 7;white pawn 3 5;black pawn 2 2;"
            + "white pawn 1 2;black pawn 1 4;");
        queens(high, "3536", 5);
        queens(high, "2221", 11);
        queens(high, "3637", 1);
        queens(high, "2120", 7);
        queens(high, "1213", 5);
        LanternChess wide = Checks.game("game 8 4;white king 0 0;black king 0 3;white pawn 3 1;black pawn 5 2;"
            + "black rook 4 3;white rook 4 0;");
        queens(wide, "3132", 5);
        queens(wide, "5251", 11);
        queens(wide, "3243", 1);
        queens(wide, "5140", 7);
        LanternChess eight = Checks.game("game 8 8;white king 0 0;black king 0 7;white pawn 7 6;black pawn 7 1;");
        queens(eight, "7677", 1);
        queens(eight, "7170", 7);
        LanternChess rook = Checks.game("game 4 4;white king 0 0;black king 0 3;white rook 3 2;black knight 2 2;");
        queens(rook, "3233", 2);
        queens(rook, "2230", 10);
    }

    private static void pawnsOfTexts() {
        Checks.says("(one that a text tells there stays a pawn)");
        LanternChess chess = Checks.game("game 5 4;white king 0 0;black king 4 3;white pawn 1 3;black pawn 2 0;"
            + "white pawn 1 0;black pawn 2 3;black rook 0 3;white rook 3 0;");
        Checks.due("white's pawn on its last row", chess.piece(0, 1, 3), 5);
        Checks.due("black's pawn on its last row", chess.piece(1, 2, 0), 11);
        targets(chess, 0, "13", "");
        targets(chess, 1, "20", "");
        targets(chess, 0, "10", "11");
        targets(chess, 1, "23", "22");
        chess.play(1, 0, 1, 1);
        chess.play(2, 3, 2, 2);
        Checks.due("they stay pawns", chess.piece(0, 1, 3) + " " + chess.piece(0, 2, 0), "5 11");
        Checks.due("nothing is attacked beyond the last row", chess.attackers(0, 0, 0, 3), 0);
    }

    private static void kingsLeft() {
        Checks.says("There are no other rules for moves: a king may be left to be taken.");
        LanternChess chess = Checks.game("game 4 4;white king 0 0;black king 0 2;black rook 3 1;white pawn 1 0;"
            + "white pawn 3 0;");
        Checks.due("a king beside a king", chess.isMove(0, 0, 0, 0, 0, 1), true);
        Checks.due("a king into the row of a rook", chess.isMove(0, 0, 0, 0, 1, 1), true);
        Checks.due("a pawn by two cells", chess.isMove(0, 0, 1, 0, 1, 2), false);
        Checks.due("a king and a rook at once", chess.isMove(0, 0, 0, 0, 2, 0), false);
        Checks.due("it is played", chess.play(0, 0, 0, 1), 1);
        Checks.due("the king is in check", chess.isInCheck(1, 0), true);
        Checks.due("another move leaves it so", Checks.play(chess, "3130"), 1);
        Checks.due("the king is left once more", Checks.play(chess, "1011"), 1);
    }

    private static void order() {
        Checks.says("The moves of a side on a board are in order: by their first cells, then by their last cells.");
        LanternChess chess = Checks.game("game 4 5;white knight 3 4;white pawn 2 1;white king 0 0;black king 1 2;"
            + "black pawn 3 2;");
        int[][] want = {{0, 1}, {0, 4}, {0, 5}, {6, 9}, {6, 10}, {6, 11}, {19, 10}, {19, 13}};
        Checks.due("moves", chess.moves(0, 0), want.length);
        for (int i = 0; i < want.length; i++) {
            Checks.due("move " + i, chess.move(0, 0, i, 0) + " " + chess.move(0, 0, i, 1),
                want[i][0] + " " + want[i][1]);
        }
    }

    private static int part(LanternChess chess, int side, String cells, int what) {
        int width = chess.count(0);
        int from = Checks.digit(cells, 0) + width * Checks.digit(cells, 1);
        int to = Checks.digit(cells, 2) + width * Checks.digit(cells, 3);
        for (int i = 0; i < chess.moves(0, side); i++) {
            if (chess.move(0, side, i, 0) == from && chess.move(0, side, i, 1) == to) {
                return chess.move(0, side, i, what);
            }
        }
        return Integer.MIN_VALUE;
    }

    private static void gains() {
        Checks.says("The gain of a move is the value of the piece that it takes (0 without one), and 8 more if a "
            + "pawn becomes a queen.");
        LanternChess chess = Checks.game("game 6 4;white king 5 1;black king 1 3;white pawn 0 2;white pawn 4 2;"
            + "black pawn 2 1;white queen 3 0;white knight 1 0;white pawn 3 1;");
        Checks.due("a pawn that becomes a queen and takes nothing", part(chess, 0, "0203", 2), 8);
        Checks.due("a pawn that becomes a queen and takes a king", part(chess, 0, "0213", 2), 108);
        Checks.due("a pawn that takes nothing", part(chess, 0, "3132", 2), 0);
        Checks.due("a pawn of black that becomes a queen", part(chess, 1, "2120", 2), 8);
        Checks.due("a pawn of black that becomes a queen and takes a queen", part(chess, 1, "2130", 2), 17);
        Checks.due("a pawn of black that becomes a queen and takes a knight", part(chess, 1, "2110", 2), 11);
        Checks.due("a king that comes to the last row", part(chess, 1, "1303", 2), 0);
        Checks.due("a king that takes a pawn", part(chess, 1, "1302", 2), 1);
    }

    private static void worths() {
        Checks.says("if it takes no king, less the greatest gain of a move of the other side on the same board "
            + "behind it (less 0 if there is no move).");
        String shut = "game 4 4;white king 3 3;black king 0 0;black pawn 1 0;black pawn 0 1;black pawn 1 1;";
        LanternChess none = Checks.game(shut);
        Checks.due("black has no move", none.moves(0, 1), 0);
        Checks.due("the worth if there is no move behind it", part(none, 0, "3323", 3), 0);
        Checks.due("the worth in rank", none.ranked(0, 3), 0);
        LanternChess taking = Checks.game(shut + "white rook 2 1;");
        Checks.due("a rook where nothing takes it", part(taking, 0, "2131", 3), 0);
        Checks.due("a pawn is taken, black takes the rook", part(taking, 0, "2111", 3), 1 - 5);
        Checks.due("the rook comes where a pawn takes it and becomes a queen", part(taking, 0, "2120", 3), -13);
        LanternChess kings = Checks.game("game 4 4;white king 0 0;black king 3 3;white queen 3 0;black rook 0 3;");
        Checks.due("a king is taken, though black could take one", part(kings, 0, "3033", 3), 100);
        Checks.due("no king is taken, and black can take one", part(kings, 0, "3020", 3), -100);
        Checks.due("a rook is taken, and the queen by the king", part(kings, 0, "3003", 3), 5);
        Checks.due("black takes a king, though white could take one", part(kings, 1, "0300", 3), 100);
        Checks.due("black takes no king, and white can take one", part(kings, 1, "0302", 3), -100);
        Checks.due("black's king moves, and white takes the rook", part(kings, 1, "3323", 3), -5);
    }

    private static void sums() {
        Checks.says("The SUM of a board is the sum, over all pieces, of the number of the cell plus 1, times (kind "
            + "plus 1, and 6 more for a piece of black).");
        Checks.due("a king on the first cell", Checks.game("game 4 4;white king 0 0;black king 1 0;").sum(0), 1 + 14);
        Checks.due("a pawn of black on the last cell",
            Checks.game("game 8 8;white king 0 0;black king 1 0;black pawn 7 7;").sum(1), 15 + 768);
        Checks.due("a board of 4 by 8", Checks.game("game 4 8;white king 0 0;black king 3 7;").sum(0), 1 + 32 * 7);
        Checks.due("a board of 8 by 4", Checks.game("game 8 4;white king 0 1;black king 7 3;").sum(0), 9 + 32 * 7);
        Checks.due("each kind", Checks.game("game 6 4;white king 0 0;white queen 1 0;white rook 2 0;white bishop 3 0;"
            + "white knight 4 0;white pawn 5 0;black king 0 1;").sum(0), 1 + 4 + 9 + 16 + 25 + 36 + 49);
    }
}
