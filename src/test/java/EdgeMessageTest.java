/** The boundary cases of section 3 of the document: how a message is told, seen, understood and read. */
public final class EdgeMessageTest {
    private static final String PIECES = "white king 2 0;white rook 0 0;black king 2 4;black rook 4 4;";

    private EdgeMessageTest() {
    }

    public static void main(String[] args) {
        countsFromNought();
        firstGroup();
        groupsOfCells();
        check();
        ticksOfFlashes();
        firstGroupSeen();
        cellsSeen();
        cellsLeftOfTheBoard();
        checkSeen();
        readsNew();
        readsSame();
        readsOther();
        readsBehindAnOwnMove();
        putRight();
        putRightTwice();
        readsOnAHighBoard();
        readsOfBlack();
        Checks.end("EdgeMessageTest");
    }

    private static String groups(LanternChess chess, String cells) {
        StringBuilder text = new StringBuilder();
        for (int i = 0; i < 6; i++) {
            text.append(chess.group(Checks.digit(cells, 0), Checks.digit(cells, 1), Checks.digit(cells, 2),
                Checks.digit(cells, 3), i));
        }
        return text.toString();
    }

    /** Black made the king's move (2, 0) to (3, 1) on its board; white saw but 4 of the 5 flashes of the answer. */
    private static LanternChess givenUp() {
        LanternChess chess = Checks.game("game 5 5;tries 1;fog 28 1 1;" + PIECES);
        Checks.due("a move that is given up", chess.play(2, 0, 3, 1), 0);
        return chess;
    }

    private static void countsFromNought() {
        Checks.says("Each board has a COUNT of moves made on it, 0 at first. White is to move first.");
        LanternChess chess = new LanternChess();
        Checks.due("a new object", "" + chess.count(9) + chess.count(10) + chess.count(3), "000");
        chess.play(0, 0, 0, 1);
        Checks.due("behind a move", "" + chess.count(9) + chess.count(10) + chess.count(3), "111");
        Checks.load(chess, "game 5 5;" + PIECES);
        Checks.due("a game that was loaded", "" + chess.count(9) + chess.count(10) + chess.count(3), "000");
    }

    private static void firstGroup() {
        Checks.says("1 plus the remainder of the COUNT of the sender's board by 2");
        LanternChess chess = new LanternChess();
        String[] moves = {"0001", "4443", "0102", "4342", "0203"};
        for (int i = 0; i < moves.length; i++) {
            Checks.due("COUNT " + i, groups(chess, moves[i]).charAt(0), i % 2 == 0 ? '1' : '2');
            Checks.due("play of " + moves[i], Checks.play(chess, moves[i]), 1);
        }
        LanternChess behind = givenUp();
        Checks.due("white's COUNT is 0, black's is 1", groups(behind, "2031").charAt(0), '1');
    }

    private static void groupsOfCells() {
        Checks.says("x plus 1 and y plus 1 of the first cell; x plus 1 and y plus 1 of the last cell");
        LanternChess high = Checks.game("game 4 8;white king 0 0;black king 3 7;");
        Checks.due("from the first cell to the last one", groups(high, "0037"), "111482");
        Checks.due("from the last cell to the first one", groups(high, "3700"), "148112");
        LanternChess wide = Checks.game("game 8 4;white king 0 0;black king 7 3;");
        Checks.due("on a wide board", groups(wide, "7300") + " " + groups(wide, "0073"), "184112 111842");
    }

    private static void check() {
        Checks.says("1 plus the remainder by 7 of the sum of the flashes of the five groups ahead.");
        LanternChess chess = new LanternChess();
        Checks.due("the least sum, 5", groups(chess, "0000"), "111116");
        Checks.due("a sum of 6", groups(chess, "0001"), "111127");
        Checks.due("a sum of 7", groups(chess, "0002"), "111131");
        Checks.due("a sum of 8", groups(chess, "0003"), "111142");
        Checks.due("a sum of 13", groups(chess, "4004"), "151157");
        Checks.due("a sum of 14", groups(chess, "4014"), "151251");
        LanternChess eight = Checks.game("game 8 8;white king 0 0;black king 7 7;white rook 7 1;");
        eight.play(0, 0, 0, 1);
        Checks.due("the greatest sum, 34", groups(eight, "7777"), "288887");
    }

    /** Hides one tick after the other: what is seen of the rook's move (0, 0) to (0, 4) and how it is read. */
    private static void hideEach(int pause, int... begins) {
        int[] flashes = {1, 1, 1, 1, 5, 3};
        for (int tick = 0; tick < begins[5] + 3 + pause; tick++) {
            LanternChess chess = Checks.game("game 5 5;pause " + pause + ";" + PIECES);
            chess.addFog(tick, 1, 1);
            StringBuilder want = new StringBuilder();
            boolean isFlash = false;
            for (int i = 0; i < 6; i++) {
                boolean isHidden = tick >= begins[i] && tick < begins[i] + flashes[i];
                want.append(flashes[i] - (isHidden ? 1 : 0));
                isFlash = isFlash || isHidden;
            }
            Checks.due("PAUSE " + pause + ", seen with tick " + tick + " hidden", Checks.seen(chess, "0004"),
                want.toString());
            Checks.due("PAUSE " + pause + ", read with tick " + tick + " hidden", Checks.reads(chess, "0004"),
                isFlash ? 0 : 1);
        }
    }

    private static void ticksOfFlashes() {
        Checks.says("Each flash takes a tick, the first one that of the time at which the message begins, and "
            + "behind each group PAUSE ticks (1 to 5) pass.");
        hideEach(1, 0, 2, 4, 6, 8, 14);
        hideEach(2, 0, 3, 6, 9, 12, 19);
        hideEach(5, 0, 6, 12, 18, 24, 34);
        LanternChess later = new LanternChess();
        later.addFog(7, 1, 1);
        later.think(7);
        Checks.due("the message begins with the hidden tick", Checks.seen(later, "0004"), "011153");
        later.think(1);
        Checks.due("it begins behind the hidden tick", Checks.seen(later, "0004"), "111153");
    }

    private static void read(LanternChess chess, String cells, String seen, int want) {
        Checks.due("seen of " + cells, Checks.seen(chess, cells), seen);
        Checks.due("readsAs of " + cells, Checks.reads(chess, cells), want);
    }

    private static void firstGroupSeen() {
        Checks.says("It understands the message if the first group has 1 or 2");
        read(Checks.foggy("game 5 5;" + PIECES, 0, 19), "0004", "011152", 0);
        read(Checks.foggy("game 5 5;" + PIECES), "0004", "111153", 1);
        LanternChess two = Checks.foggy("game 5 5;" + PIECES, 30, 31, 56, 57);
        two.play(0, 0, 0, 4);
        read(two, "2413", "035241", 0);
        LanternChess black = new LanternChess();
        black.play(0, 0, 0, 4);
        read(black, "2413", "235243", 1);
    }

    private static void cellsSeen() {
        Checks.says("the next four tell cells of the board");
        String text = "game 5 5;" + PIECES;
        read(Checks.foggy(text, 3, 19), "0004", "101152", 0);
        read(Checks.foggy(text, 6, 19), "0004", "110152", 0);
        read(Checks.foggy(text, 9, 19), "0004", "111052", 0);
        read(Checks.foggy(text, 13, 16), "0010", "111206", 0);
        read(Checks.foggy(text, 12, 19), "0004", "111142", 1);
        LanternChess dark = new LanternChess();
        dark.addFog(0, 24, 1);
        read(dark, "0004", "000000", 0);
    }

    private static void cellsLeftOfTheBoard() {
        String text = "game 5 5;white king 0 4;black king 4 4;";
        read(Checks.foggy(text + "white rook 0 1;white rook 4 0;", 3, 21), "0141", "102524", 0);
        read(Checks.foggy(text + "white bishop 3 1;", 13, 20), "3101", "142023", 0);
        String eight = "game 8 8;white king 0 7;black king 7 7;";
        read(Checks.foggy(eight + "white bishop 7 0;white rook 0 1;", 3, 23), "0161", "102726", 0);
        read(Checks.foggy(eight + "white bishop 7 0;white queen 6 1;", 16, 23), "6101", "172026", 0);
        String high = "game 4 8;white king 0 7;black king 3 7;";
        read(Checks.foggy(high + "white rook 0 1;white rook 3 0;", 3, 20), "0131", "102423", 0);
    }

    private static void checkSeen() {
        Checks.says("the check is right for what it sees");
        String text = "game 5 5;" + PIECES;
        read(Checks.foggy(text, 12), "0004", "111143", 0);
        read(Checks.foggy(text, 19), "0004", "111152", 0);
        read(Checks.foggy(text, 12, 19), "0004", "111142", 1);
        read(Checks.foggy(text, 12, 13, 20, 21), "0004", "111131", 1);
        read(Checks.foggy(text, 12, 13, 14, 19, 20, 21), "0004", "111120", 0);
        String rook = "game 8 8;white king 7 0;black king 7 7;white rook 0 1;";
        LanternChess six = Checks.game(rook + "fog 13 6 1;");
        read(six, "0107", "112127", 0);
        LanternChess seven = Checks.game(rook + "fog 13 7 1;");
        read(seven, "0107", "112117", 1);
        seven.play(0, 1, 0, 7);
        Checks.due("it was read as a move to the first cell", seven.sent(0, 4) + " " + seven.sent(0, 3), "1 13");
    }

    /** White's rook is at (0, 4) on white's board, at (0, 3) on black's one; white is to move. */
    private static LanternChess apart() {
        LanternChess chess = Checks.foggy("game 5 5;" + PIECES, 12, 19);
        Checks.due("a misread move, answered by chance", chess.play(0, 0, 0, 4), 1);
        Checks.due("black's move", chess.play(4, 4, 4, 3), 1);
        return chess;
    }

    private static void readsNew() {
        Checks.says("the first group is 1 plus the remainder of the COUNT of its board by 2, and on its board the "
            + "move is a move of the sender's side: it makes it.");
        LanternChess chess = apart();
        Checks.due("a move on both boards", Checks.reads(chess, "2021"), 1);
        Checks.due("a move on white's board alone", Checks.reads(chess, "0414"), 0);
        Checks.due("a move on black's board alone", Checks.reads(chess, "0313"), 1);
        Checks.due("it is no move to be played", Checks.play(chess, "0313"), LanternChess.CANNOT);
        Checks.due("a move of the receiver's side", Checks.reads(chess, "2423"), 0);
        Checks.due("the same cell twice", Checks.reads(chess, "2020"), 0);
        Checks.due("no piece", Checks.reads(chess, "1112"), 0);
        Checks.due("it is made", Checks.play(chess, "2021") + " " + chess.piece(1, 2, 1), "1 0");
        Checks.due("COUNTs", chess.count(9) + " " + chess.count(10), "3 3");
    }

    private static void readsSame() {
        Checks.says("the first group is the other one, its COUNT is not 0, the latest move made on its board (of "
            + "either side; one that was put right is it then) was of the sender's side, and had the same cells: "
            + "it makes nothing.");
        LanternChess chess = givenUp();
        Checks.due("the same cells", Checks.reads(chess, "2031"), 2);
        Checks.due("other first cell", Checks.reads(chess, "2131"), 0);
        Checks.due("COUNTs ahead of it", chess.count(9) + " " + chess.count(10), "0 1");
        Checks.due("played once more", chess.play(2, 0, 3, 1), 1);
        Checks.due("COUNTs behind it", chess.count(9) + " " + chess.count(10), "1 1");
        Checks.due("how it was read, and the answer", chess.sent(1, 4) + " " + chess.sent(1, 5), "2 5");
        Checks.due("the boards", chess.differ(0) + " " + chess.piece(1, 3, 1), "0 0");
        LanternChess first = new LanternChess();
        Checks.due("COUNT 0: new", Checks.reads(first, "2031"), 1);
    }

    private static void readsOther() {
        Checks.says("as with same, but with other cells, and the move is a move of the sender's side on its board "
            + "as it was ahead of that latest move: it takes the latest move back and makes this one in its place "
            + "(COUNT stays).");
        LanternChess chess = givenUp();
        Checks.due("another last cell", Checks.reads(chess, "2011"), 3);
        Checks.due("another piece", Checks.reads(chess, "0004"), 3);
        Checks.due("shut on the board ahead of it, open now", Checks.reads(chess, "0030"), 0);
        Checks.due("a move of the board as it is now alone", Checks.reads(chess, "3132"), 0);
        Checks.due("a piece of the receiver's side", Checks.reads(chess, "4443"), 0);
        Checks.due("to a cell with the piece that stood there ahead of it", Checks.reads(chess, "0020"), 0);
        Checks.due("the same cell twice", Checks.reads(chess, "0000"), 0);
        Checks.due("played", chess.play(0, 0, 0, 4), 1);
        Checks.due("COUNTs behind it", chess.count(9) + " " + chess.count(10), "1 1");
        Checks.due("the king is back", chess.piece(1, 2, 0) + " " + chess.piece(1, 3, 1), "0 -1");
        Checks.due("how it was read, and the answer", chess.sent(1, 4) + " " + chess.sent(1, 5), "3 4");
    }

    private static void readsBehindAnOwnMove() {
        Checks.says("the latest move made on its board (of either side; one that was put right is it then) was of "
            + "the sender's side");
        // Of black's first group, from 30 on, one flash of two is hidden: its COUNT seems to be even.
        LanternChess same = Checks.foggy("game 5 5;" + PIECES, 30, 50);
        same.play(0, 0, 0, 4);
        read(same, "0004", "111153", 0);
        LanternChess other = Checks.foggy("game 5 5;" + PIECES, 30, 56);
        other.play(0, 0, 0, 4);
        read(other, "2413", "135242", 0);
        LanternChess clear = new LanternChess();
        clear.play(0, 0, 0, 4);
        read(clear, "2413", "235243", 1);
    }

    private static void putRight() {
        Checks.says("it takes the latest move back and makes this one in its place (COUNT stays)");
        LanternChess chess = Checks.game("game 5 5;tries 1;fog 29 1 1;white king 2 2;black king 4 4;black pawn 3 3;");
        Checks.due("a pawn is taken on black's board", chess.play(2, 2, 3, 3) + " " + chess.material(1, 1), "0 100");
        Checks.due("the king goes elsewhere", Checks.reads(chess, "2211"), 3);
        Checks.due("it is played", chess.play(2, 2, 1, 1), 1);
        Checks.due("the pawn is back", chess.piece(1, 3, 3) + " " + chess.piece(1, 1, 1), "11 0");
        Checks.due("COUNTs", chess.count(9) + " " + chess.count(10), "1 1");
        LanternChess queen = Checks.game("game 4 4;tries 1;fog 26 1 1;white king 3 0;black king 3 3;white pawn 0 2;");
        Checks.due("a pawn became a queen on black's board", queen.play(0, 2, 0, 3) + " " + queen.piece(1, 0, 3),
            "0 1");
        Checks.due("the king moves", Checks.reads(queen, "3031") + " " + queen.play(3, 0, 3, 1), "3 1");
        Checks.due("the pawn is back from the last row", queen.piece(1, 0, 2) + " " + queen.piece(1, 0, 3), "5 -1");
    }

    private static void putRightTwice() {
        Checks.says("(of either side; one that was put right is it then)");
        LanternChess chess = givenUp();
        hideAnswer(chess, "2011");
        Checks.due("put right, not answered", Checks.play(chess, "2011") + " " + chess.sent(1, 4), "0 3");
        Checks.due("the one that was put right", Checks.reads(chess, "2011"), 2);
        Checks.due("the one ahead of it", Checks.reads(chess, "2031"), 3);
        hideAnswer(chess, "0001");
        Checks.due("put right once more", Checks.play(chess, "0001") + " " + chess.sent(2, 4), "0 3");
        Checks.due("COUNT stays", chess.count(10), 1);
        Checks.due("the latest one", Checks.reads(chess, "0001"), 2);
        Checks.due("by the board ahead of all of them", Checks.reads(chess, "2011"), 3);
        Checks.due("and no move of a later board", Checks.reads(chess, "0102"), 0);
        Checks.due("black's board", "" + chess.piece(1, 2, 0) + chess.piece(1, 0, 1) + chess.piece(1, 0, 0), "02-1");
        Checks.due("answered at last", Checks.play(chess, "0001") + " " + chess.sent(3, 4) + " " + chess.differ(0),
            "1 2 0");
    }

    private static void hideAnswer(LanternChess chess, String cells) {
        int message = chess.messageTicks(Checks.digit(cells, 0), Checks.digit(cells, 1), Checks.digit(cells, 2),
            Checks.digit(cells, 3));
        chess.addFog(chess.count(2) + message, 1, 1);
    }

    private static void readsOnAHighBoard() {
        Checks.says("the next four tell cells of the board");
        String high = "game 4 8;white king 0 0;black king 3 7;white rook 3 0;black rook 0 7;";
        Checks.due("to the upmost row", Checks.reads(Checks.game(high), "3036"), 1);
        Checks.due("from the upmost row", Checks.reads(Checks.game(high + "white rook 1 7;"), "1710"), 1);
        String wide = "game 8 4;white king 0 0;black king 7 3;white rook 0 3;";
        Checks.due("to the last column", Checks.reads(Checks.game(wide), "0363"), 1);
        Checks.due("from the last column", Checks.reads(Checks.game(wide + "white rook 7 1;"), "7121"), 1);
    }

    private static void readsOfBlack() {
        Checks.says("The other side, the receiver, tells of each group how many flashes it sees.");
        LanternChess chess = Checks.foggy("game 5 5;black pawn 1 4;" + PIECES, 12, 19);
        Checks.due("a misread move, answered by chance", chess.play(0, 0, 0, 4), 1);
        Checks.due("the pawn takes the rook on black's board alone", "" + chess.isMove(0, 1, 1, 4, 0, 3)
            + chess.isMove(1, 1, 1, 4, 0, 3), "falsetrue");
        Checks.due("white does not understand that", Checks.reads(chess, "1403"), 0);
        Checks.due("straight on", Checks.reads(chess, "1413"), 1);
        Checks.due("white's king is no piece of black's", Checks.reads(chess, "2021"), 0);
        Checks.due("it is given up", Checks.play(chess, "1403") + " " + chess.sent(1, 4), "0 0");
        Checks.due("the boards are as they were", chess.differ(0) + " " + chess.count(9) + " " + chess.count(10),
            "2 1 1");
    }
}
