/** The boundary cases of section 4 of the document and of promises 1 to 6: setup texts and the input buffer. */
public final class EdgeSetupTest {
    private static final String KINGS = "white king 0 0;black king 3 3;";
    private static final String PIECES = "white king 2 0;white rook 0 0;black king 2 4;black rook 4 4;";

    private EdgeSetupTest() {
    }

    public static void main(String[] args) {
        newObject();
        sixHundredBytes();
        appendInput();
        truncateInput();
        longestText();
        anyNumberOfStatements();
        widthAndHeight();
        clocks();
        pauseWaitTries();
        fogs();
        toldOnce();
        thirtyTwoPieces();
        kings();
        words();
        numbers();
        spaces();
        cannotStandThere();
        noToken();
        outOfRange();
        notOnTheBoard();
        toldAgain();
        tooMany();
        endWithoutKings();
        offsets();
        firstErrors();
        smallestCodes();
        errorChangesNothing();
        textReplacesEverything();
        loadGame();
        errorOfTheLatestCall();
        Checks.end("EdgeSetupTest");
    }

    /** The error of a text: its code and its offset; "0 at -1" without an error. */
    private static void error(String text, int code, int offset) {
        LanternChess chess = new LanternChess();
        int pieces = Checks.load(chess, text);
        Checks.due("the error of " + text, chess.errorCode() + " at " + chess.errorOffset(), code + " at " + offset);
        Checks.due("loadGame of " + text, pieces == LanternChess.NONE, code != 0);
    }

    /** An error whose token begins behind the ahead part of a text. */
    private static void errorBehind(String ahead, String rest, int code) {
        error(ahead + rest, code, ahead.length());
    }

    private static void right(String text) {
        error(text, 0, LanternChess.NONE);
    }

    private static void newObject() {
        Checks.says("Creates a game as if the text \"game 5 5;white king 2 0;white rook 0 0;black king 2 4;black "
            + "rook 4 4;\" was loaded, with an empty input buffer.");
        LanternChess chess = new LanternChess();
        String before = Checks.state(chess);
        Checks.due("the input buffer is empty", chess.truncateInput(1), false);
        Checks.due("it is so long", chess.truncateInput(0), true);
        Checks.due("no error", chess.errorCode() + " " + chess.errorOffset(), "0 -1");
        Checks.due("the text loaded", Checks.load(chess, "game 5 5;" + PIECES), 4);
        Checks.due("it is as it was", Checks.state(chess), before);
        Checks.due("the first bytes appended", new LanternChess().appendInput(1, 2, 3, 4, 5), 20);
    }

    private static void sixHundredBytes() {
        Checks.says("The input buffer holds at most 600 bytes.");
        LanternChess chess = new LanternChess();
        for (int i = 0; i < 30; i++) {
            chess.appendInput(0, 0, 0, 0, 0);
        }
        Checks.due("600 bytes", chess.truncateInput(600), true);
        Checks.due("not 601 bytes", chess.truncateInput(601), false);
        Checks.due("no more", chess.appendInput(0, 0, 0, 0, 0), LanternChess.NONE);
        Checks.due("600 bytes still", chess.truncateInput(600), true);
    }

    private static void appendInput() {
        Checks.says("Returns the new length of the input buffer; NONE, with no change, if it would be more than "
            + "600.");
        for (int length = 579; length <= 582; length++) {
            LanternChess chess = new LanternChess();
            for (int i = 0; i < 30; i++) {
                chess.appendInput(0x20202020, 0x20202020, 0x20202020, 0x20202020, 0x20202020);
            }
            chess.truncateInput(length);
            int want = length <= 580 ? length + 20 : LanternChess.NONE;
            Checks.due("appendInput to " + length, chess.appendInput(0x23232323, 0, 0, 0, 0), want);
            Checks.due("the length then", chess.truncateInput(Math.max(length, want) + 1), false);
            chess.loadGame();
            Checks.due("the first byte that is no space", chess.errorOffset(), length);
        }
        Checks.says("the four bytes of each argument, the most significant byte first.");
        for (int i = 0; i < 20; i++) {
            LanternChess chess = new LanternChess();
            int[] words = {0x20202020, 0x20202020, 0x20202020, 0x20202020, 0x20202020};
            words[i / 4] ^= 0x80 << 8 * (3 - i % 4);
            chess.appendInput(words[0], words[1], words[2], words[3], words[4]);
            chess.loadGame();
            Checks.due("byte " + i + " is no space", chess.errorOffset(), i);
        }
        LanternChess full = new LanternChess();
        full.appendInput(-1, Integer.MIN_VALUE, Integer.MAX_VALUE, 0, -1);
        full.loadGame();
        Checks.due("bytes of 255", full.errorCode() + " " + full.errorOffset(), "1 0");
    }

    private static void truncateInput() {
        Checks.says("Returns whether length is 0 to the present length; otherwise nothing changes.");
        LanternChess chess = new LanternChess();
        Checks.due("0 of 0", chess.truncateInput(0), true);
        Checks.due("1 of 0", chess.truncateInput(1), false);
        Checks.due("-1 of 0", chess.truncateInput(-1), false);
        chess.appendInput(0, 0, 0, 0, 0);
        Checks.due("21 of 20", chess.truncateInput(21), false);
        Checks.due("-1 of 20", chess.truncateInput(-1), false);
        Checks.due("the least int", chess.truncateInput(Integer.MIN_VALUE), false);
        Checks.due("the greatest int", chess.truncateInput(Integer.MAX_VALUE), false);
        Checks.due("20 of 20, as nothing changed", chess.truncateInput(20), true);
        Checks.due("19 of 20", chess.truncateInput(19), true);
        Checks.due("20 of 19", chess.truncateInput(20), false);
        Checks.due("the new length", chess.appendInput(0, 0, 0, 0, 0), 39);
        Checks.due("0 of 39", chess.truncateInput(0), true);
        chess.loadGame();
        Checks.due("nothing is left", chess.errorCode() + " " + chess.errorOffset(), "1 0");
    }

    private static void longestText() {
        String text = "game 4 4;" + KINGS;
        String spaces = " ".repeat(600 - text.length());
        right(text + spaces);
        right(spaces + text);
        right("game 4 4;" + spaces + KINGS);
        error("game 4 4;" + spaces + "white king 0 0;black king 3 3" + " ", 1, 600);
        error(text.substring(0, 24) + " ".repeat(576), 5, 600);
        error(" ".repeat(600), 1, 600);
        error(" ".repeat(599) + "#", 1, 599);
        error(" ".repeat(599) + "g", 1, 599);
    }

    private static void anyNumberOfStatements() {
        Checks.says("braces mean any number of times");
        errorBehind("game 4 4;", "", 5);
        right("game 4 4;" + KINGS);
        StringBuilder all = new StringBuilder("game 8 8;pause 1;wait 0;tries 1;clock 1 1;");
        for (int i = 0; i < 8; i++) {
            all.append("fog ").append(i).append(" 1 1;");
        }
        for (int i = 0; i < 24; i++) {
            String piece = i == 0 ? "white king " : i == 1 ? "black king " : "white pawn ";
            all.append(piece).append(i % 8).append(' ').append(i / 8).append(';');
        }
        right(all.toString());
        Checks.due("that text is long", all.length() > 480 && all.length() <= 600, true);
    }

    private static void widthAndHeight() {
        Checks.says("\"game\" tells the width and the height");
        errorBehind("game ", "3 4;" + KINGS, 2);
        right("game 4 4;" + KINGS);
        right("game 8 8;" + KINGS);
        errorBehind("game ", "9 4;" + KINGS, 2);
        errorBehind("game 4 ", "3;" + KINGS, 2);
        errorBehind("game 4 ", "9;" + KINGS, 2);
        errorBehind("game ", "0 4;" + KINGS, 2);
        errorBehind("game ", "9999 4;" + KINGS, 2);
        LanternChess high = Checks.game("game 4 8;" + KINGS);
        Checks.due("the width first", high.count(0) + " " + high.count(1), "4 8");
    }

    private static void clocks() {
        Checks.says("\"clock\" the clocks of white and black (1 to 9999; 1000 each without it)");
        errorBehind("game 4 4;clock ", "0 1;" + KINGS, 2);
        errorBehind("game 4 4;clock 1 ", "0;" + KINGS, 2);
        errorBehind("game 4 4;clock ", "10000 1;" + KINGS, 1);
        errorBehind("game 4 4;clock 1 ", "10000;" + KINGS, 1);
        errorBehind("game 4 4;clock 1", ";" + KINGS, 1);
        LanternChess chess = Checks.game("game 4 4;clock 1 9999;" + KINGS);
        Checks.due("the least and the greatest one", chess.clock(0) + " " + chess.clock(1), "1 9999");
        Checks.load(chess, "game 4 4;" + KINGS + "clock 9999 1;");
        Checks.due("the other way", chess.clock(0) + " " + chess.clock(1), "9999 1");
        Checks.load(chess, "game 4 4;" + KINGS);
        Checks.due("without it", chess.clock(0) + " " + chess.clock(1), "1000 1000");
    }

    private static void setting(String word, int least, int most, int without, int what) {
        String ahead = "game 4 4;" + word + " ";
        if (least > 0) {
            errorBehind(ahead, (least - 1) + ";" + KINGS, 2);
        }
        errorBehind(ahead, (most + 1) + ";" + KINGS, 2);
        errorBehind(ahead, "9999;" + KINGS, 2);
        errorBehind(ahead, "10000;" + KINGS, 1);
        for (int value = least; value <= most; value++) {
            Checks.due(word + " " + value, Checks.game(ahead + value + ";" + KINGS).count(what), value);
        }
        Checks.due("without " + word, Checks.game("game 4 4;" + KINGS).count(what), without);
    }

    private static void pauseWaitTries() {
        Checks.says("\"pause\" PAUSE (2 without it), \"wait\" WAIT (3), \"tries\" TRIES (4)");
        setting("pause", 1, 5, 2, 5);
        setting("wait", 0, 9, 3, 6);
        setting("tries", 1, 9, 4, 7);
    }

    private static void fogs() {
        Checks.says("\"fog\" FROM, LONG and EVERY.");
        String ahead = "game 4 4;" + KINGS + "fog ";
        LanternChess chess = Checks.game(ahead + "9999 999 9;fog 0 1 1;");
        Checks.due("the least ones", chess.fog(0, 0) + " " + chess.fog(0, 1) + " " + chess.fog(0, 2), "0 1 1");
        Checks.due("the greatest ones", chess.fog(1, 0) + " " + chess.fog(1, 1) + " " + chess.fog(1, 2), "9999 999 9");
        errorBehind(ahead, "10000 1 1;", 1);
        errorBehind(ahead + "0 ", "0 1;", 2);
        errorBehind(ahead + "0 ", "1000 1;", 2);
        errorBehind(ahead + "0 1 ", "0;", 2);
        errorBehind(ahead + "0 1 ", "10;", 2);
        errorBehind(ahead + "0 1", ";", 1);
    }

    private static void toldOnce() {
        Checks.says("Clock, pause, wait and tries may be told once each.");
        right("game 4 4;tries 2;wait 2;pause 2;clock 2 2;" + KINGS);
        right("game 4 4;" + KINGS + "clock 2 2;pause 2;wait 2;tries 2;");
        right("game 4 4;white rook 1 1;white rook 1 2;" + KINGS + "fog 1 1 1;fog 2 1 1;");
    }

    private static String pieces(int number) {
        StringBuilder text = new StringBuilder("game 8 8;white king 0 0;black king 1 0;");
        for (int i = 2; i < number; i++) {
            text.append("white pawn ").append(i % 8).append(' ').append(i / 8).append(';');
        }
        return text.toString();
    }

    private static void thirtyTwoPieces() {
        Checks.says("There are at most 32 pieces, one king of each side.");
        for (int number : new int[] {2, 31, 32}) {
            Checks.due(number + " pieces", Checks.load(new LanternChess(), pieces(number)), number);
        }
        errorBehind(pieces(32), "white pawn 7 7;", 4);
        errorBehind(pieces(32), "black pawn 7 7;", 4);
        right(pieces(32) + "fog 1 1 1;clock 1 1;");
    }

    private static void kings() {
        right("game 4 4;black king 3 3;white king 0 0;");
        errorBehind("game 4 4;white king 0 0;white ", "king 1 1;black king 3 3;", 3);
        errorBehind("game 4 4;" + KINGS + "black ", "king 1 1;", 3);
        errorBehind("game 4 4;white king 0 0;", "", 5);
        errorBehind("game 4 4;black king 0 0;", "", 5);
        errorBehind("game 4 4;white queen 0 0;black queen 1 1;", "", 5);
        right("game 4 4;white queen 0 1;white queen 0 2;" + KINGS);
    }

    private static void words() {
        Checks.says("A word is a maximal run of the letters a to z");
        errorBehind("", "gam e 4 4;", 1);
        errorBehind("", "gamee 4 4;", 1);
        errorBehind("", "agame 4 4;", 1);
        errorBehind("", "gamez 4 4;", 1);
        errorBehind("", "gam", 1);
        errorBehind("", "zzzz", 1);
        errorBehind("game 4 4;", "clockpause 1;", 1);
        errorBehind("game 4 4;", "clocka 1 1;", 1);
        errorBehind("game", "`4 4;", 1);
        errorBehind("game", "{4 4;", 1);
        errorBehind("game", "@4 4;", 1);
        errorBehind("", "GAME 4 4;", 1);
        errorBehind("game 4 4;white ", "Queen 1 1;", 1);
        for (String word : new String[] {"kin", "kings", "quee", "queens", "roo", "rooks", "bisho", "bishops", "knigh",
            "knights", "paw", "pawns", "game", "white", "clock"}) {
            errorBehind("game 4 4;white ", word + " 1 1;", 1);
        }
        for (String word : new String[] {"cloc", "clocks", "paus", "pauses", "wai", "waits", "trie", "triess", "whit",
            "whites", "blac", "blacks", "fo", "fogs", "king", "game"}) {
            errorBehind("game 4 4;", word + " 1 1;", 1);
        }
    }

    private static void numbers() {
        Checks.says("a number a maximal run of 1 to 4 digits.");
        right("game 0004 0008;" + KINGS);
        right("game 04 008;" + KINGS);
        errorBehind("game ", "00004 8;" + KINGS, 1);
        errorBehind("game 4 ", "00008;" + KINGS, 1);
        errorBehind("game ", "44 4;" + KINGS, 2);
        errorBehind("game ", "1234567890 4;", 1);
        right("game 4 4;" + KINGS + "fog 0000 0001 0009;");
        errorBehind("game 4 4;" + KINGS + "fog ", "00000 1 1;", 1);
        errorBehind("game ", "/4 4;", 1);
        errorBehind("game ", ":4 4;", 1);
        errorBehind("game ", "-4 4;", 1);
        errorBehind("game ", "+4 4;", 1);
        errorBehind("game 4", ".0 4;", 1);
    }

    private static void spaces() {
        Checks.says("Spaces (byte 32) and line feeds (byte 10) may stand between tokens.");
        right(" \n game\n4 \n 4 ; white\nking 0\n0\n;black  king\n\n3 3 ; \n");
        right("game4 4;white king0 0;black king3 3;clock5 5;fog1 1 1;");
        right("game 4 4;fog 1 1 1;white king 0 0;black king 3 3;");
        errorBehind("game ", "44;" + KINGS, 2);
        errorBehind("game 4 4;", "w hite king 0 0;", 1);
        for (int sign : new int[] {0, 1, 9, 11, 12, 13, 31, 33, 127, 128, 138, 160, 255}) {
            errorBehind("game 4 4;" + KINGS, (char) sign + "", 1);
            errorBehind("", (char) sign + "game 4 4;" + KINGS, 1);
            errorBehind("game 4", (char) sign + "4;" + KINGS, 1);
        }
    }

    private static void cannotStandThere() {
        Checks.says("a token that cannot stand there (also the end of an empty text), a number of more than 4 "
            + "digits, or a byte that is no token.");
        errorBehind("", "", 1);
        errorBehind("", ";", 1);
        errorBehind("", "4 4;", 1);
        errorBehind("", "clock 1 1;", 1);
        errorBehind("game ", "game 4 4;", 1);
        errorBehind("game ", ";", 1);
        errorBehind("game 4 ", ";", 1);
        errorBehind("game 4 4 ", "white king 0 0;", 1);
        errorBehind("game 4 4 ", "4;", 1);
        errorBehind("game 4 4;", ";", 1);
        errorBehind("game 4 4;", "4;", 1);
        errorBehind("game 4 4;", "game 4 4;", 1);
        errorBehind("game 4 4;pause ", "pause 1;", 1);
        errorBehind("game 4 4;pause 1 ", "1;", 1);
        errorBehind("game 4 4;wait ", ";", 1);
        errorBehind("game 4 4;wait 1", "wait 1;", 1);
        errorBehind("game 4 4;white ", "1 1;", 1);
        errorBehind("game 4 4;white rook 1 1 ", "1;", 1);
        errorBehind("game 4 4;white rook 1 ", ";", 1);
        errorBehind("game 4 4;white ", "black king 1 1;", 1);
        errorBehind("game 4 4;" + KINGS + "fog 1 1 1 ", "1;", 1);
    }

    private static void noToken() {
        for (int sign = 0; sign < 256; sign++) {
            boolean isToken = sign == ' ' || sign == '\n' || sign == ';' || sign >= '0' && sign <= '9'
                || sign >= 'a' && sign <= 'z';
            if (!isToken) {
                errorBehind("game 4 4;" + KINGS, (char) sign + "pause 1;", 1);
            }
        }
    }

    private static void outOfRange() {
        Checks.says("a number that is out of its range; x or y that is not on the board.");
        errorBehind("game 4 4;pause ", "9 ;pause 1;", 2);
        errorBehind("game 4 4;clock ", "0 0;", 2);
        errorBehind("game 4 4;clock 1 ", "0000;", 2);
        errorBehind("game ", "9 9 9", 2);
        errorBehind("game 4 4;fog 1 ", "1000", 2);
    }

    private static void notOnTheBoard() {
        for (int wide = 4; wide <= 8; wide += 2) {
            int high = 12 - wide;
            String ahead = "game " + wide + " " + high + ";white king ";
            right(ahead + (wide - 1) + " " + (high - 1) + ";black king 0 0;");
            errorBehind(ahead, wide + " 0;black king 1 1;", 2);
            errorBehind(ahead + "0 ", high + ";black king 1 1;", 2);
            errorBehind(ahead, "9999 0;", 2);
            errorBehind(ahead + "0 ", "9999;", 2);
            errorBehind(ahead, "10000 0;", 1);
        }
    }

    private static void toldAgain() {
        Checks.says("the first word of clock, pause, wait or tries told again; the word king of a side that has "
            + "one; the y of a cell with a piece; FROM of a fog that another one has.");
        errorBehind("game 4 4;clock 1 1;", "clock 2 2;" + KINGS, 3);
        errorBehind("game 4 4;pause 1;", "pause 1;" + KINGS, 3);
        errorBehind("game 4 4;wait 0;" + KINGS, "wait 1;", 3);
        errorBehind("game 4 4;tries 1;clock 1 1;", "tries 1;" + KINGS, 3);
        errorBehind("game 4 4;clock 1000 1000;", "clock", 3);
        errorBehind("game 4 4;white king 0 0;white ", "king 0 0;", 3);
        errorBehind("game 4 4;black king 0 0;black ", "king 4 4;", 3);
        errorBehind("game 4 4;" + KINGS + "white rook 0 ", "0;", 3);
        errorBehind("game 4 4;" + KINGS + "white rook 3 ", "3;", 3);
        errorBehind("game 8 4;white rook 7 3;black rook 7 ", "3;", 3);
        right("game 8 4;white rook 7 3;black rook 7 2;white rook 6 3;" + KINGS.replace("3 3", "3 2"));
        errorBehind("game 4 4;fog 0 1 1;fog ", "0 2 2;", 3);
        errorBehind("game 4 4;fog 9999 1 1;fog 1 1 1;fog ", "9999 1 1;", 3);
        errorBehind("game 4 4;fog 5 1 1;fog ", "0005 1 1;", 3);
    }

    private static String manyFogs(int number) {
        StringBuilder text = new StringBuilder("game 4 4;" + KINGS);
        for (int i = 0; i < number; i++) {
            text.append("fog ").append(i).append(" 1 1;");
        }
        return text.toString();
    }

    private static void tooMany() {
        Checks.says("the first word of a 33rd piece or a ninth fog.");
        Checks.due("8 fogs", Checks.game(manyFogs(8)).count(8), 8);
        errorBehind(manyFogs(8), "fog 8 1 1;", 4);
        errorBehind(manyFogs(8), "fog 0 0 0;", 4);
        errorBehind(manyFogs(8), "fog", 4);
        right(manyFogs(8) + "pause 1;");
        errorBehind(pieces(32), "white", 4);
        errorBehind(pieces(32), "black king 0 0;", 4);
        errorBehind(pieces(32) + "clock 1 1;", "white 1;", 4);
    }

    private static void endWithoutKings() {
        Checks.says("the end of a text without a king of each side (at its length).");
        errorBehind("game 4 4;", "", 5);
        errorBehind("game 4 4;pause 1;", "", 5);
        error("game 4 4;  \n", 5, 12);
        error("game 4 4;white king 0 0; ", 5, 25);
        error("game 4 4;black king 0 0;\n", 5, 25);
    }

    private static void offsets() {
        Checks.says("An error has a code and an offset, which is the index of the first byte of the token at "
            + "fault, or the length of the text if more is required.");
        String text = "game 4 4;white king 0 0;black king 3 3;clock 5 5;fog 1 1 1;";
        for (int length = 0; length < text.length(); length++) {
            String part = text.substring(0, length);
            LanternChess chess = new LanternChess();
            Checks.load(chess, part);
            boolean isWhole = part.endsWith(";");
            boolean hasKings = length >= 39;
            int code = isWhole ? hasKings ? 0 : 5 : 1;
            Checks.due("the code of " + part, chess.errorCode(), code);
            char last = length == 0 ? ' ' : part.charAt(length - 1);
            boolean isCutWord = last >= 'a' && last <= 'z' && text.charAt(length) >= 'a' && text.charAt(length) <= 'z';
            int start = Math.max(part.lastIndexOf(' '), part.lastIndexOf(';')) + 1;
            int offset = code == 0 ? LanternChess.NONE : isCutWord ? start : length;
            Checks.due("the offset of " + part, chess.errorOffset(), offset);
        }
        error("game 4   ", 1, 9);
        error("game \n 9 9;", 2, 7);
    }

    private static void firstErrors() {
        Checks.says("The first error from the left is reported");
        errorBehind("game 4 4;pause ", "9;bause 1;", 2);
        errorBehind("game 4 4;", "bause 9;pause 9;", 1);
        errorBehind("game 4 4;white king 0 0;white rook 0 ", "0;pause 0;", 3);
        errorBehind(manyFogs(8), "fog 9 0 0;pause 0;", 4);
        errorBehind("game 4 4;pause 1;", "pause 0;", 3);
        errorBehind("game 4 4;white king ", "4 4;white king 0 0;", 2);
    }

    private static void smallestCodes() {
        Checks.says("if several codes apply to a token, the smallest one.");
        errorBehind("game 4 4;white king 0 0;white rook 0 ", "4;", 2);
        errorBehind("game 4 4;white king 0 0;white rook 0 ", "00000;", 1);
        errorBehind("game 4 4;white king 0 0", "", 1);
        errorBehind("game 4 4", "", 1);
        errorBehind("game 4 4;fog", "", 1);
        errorBehind("game 4 4;fog 1 1 1;fog ", "00001 1 1;", 1);
    }

    private static void errorChangesNothing() {
        Checks.says("An error changes nothing but the input buffer and the reported error.");
        for (String text : new String[] {"", "game 6 6;clock 5 5;pause 5;wait 5;tries 5;fog 1 1 1;", "#",
            "game 6 6;white king 0 0;black king 1 1;white king 2 2;"}) {
            LanternChess chess = Checks.game("game 5 5;fog 28 1 1;" + PIECES);
            chess.saveState();
            chess.play(2, 0, 3, 1);
            chess.printRow(0, 1);
            String before = Checks.state(chess);
            Checks.due("loadGame of " + text, Checks.load(chess, text), LanternChess.NONE);
            Checks.due("the game behind " + text, Checks.state(chess), before);
            Checks.due("the output behind " + text, Checks.output(chess), "...K.");
            Checks.due("the input behind " + text, chess.truncateInput(1), false);
            Checks.due("undo behind " + text, chess.undo() + " " + chess.count(2), "0 0");
            Checks.due("the saved state behind " + text, chess.restoreState(), 0);
        }
    }

    private static void textReplacesEverything() {
        Checks.says("A text without an error replaces everything but the output: the time is 0, nothing can be "
            + "undone, and no state is saved.");
        LanternChess chess = Checks.game("game 8 8;clock 500 500;pause 1;wait 9;tries 9;fog 5 1 1;white king 7 7;"
            + "black king 0 7;white queen 3 3;");
        chess.play(3, 3, 3, 4);
        chess.think(5);
        chess.saveState();
        chess.printRow(0, 4);
        Checks.due("loadGame", Checks.load(chess, "game 5 5;" + PIECES), 4);
        Checks.due("everything", Checks.state(chess), Checks.state(new LanternChess()));
        Checks.due("the output stays", Checks.output(chess), "...Q....");
        Checks.dueThrow("undo", java.util.NoSuchElementException.class, chess::undo);
        Checks.dueThrow("restoreState", java.util.NoSuchElementException.class, chess::restoreState);
        Checks.due("means", chess.meanTries() + " " + chess.hiddenShare(), "0.0 0.0");
        Checks.due("the error", chess.errorCode() + " " + chess.errorOffset(), "0 -1");
        LanternChess over = new LanternChess();
        over.resign();
        Checks.load(over, "game 4 4;" + KINGS);
        Checks.due("the game goes on", over.count(4) + " " + over.play(0, 0, 0, 1), "0 1");
    }

    private static void loadGame() {
        Checks.says("Loads a game from the input buffer and empties the buffer, whether there is an error or not.");
        LanternChess chess = new LanternChess();
        Checks.due("an empty buffer", chess.loadGame(), LanternChess.NONE);
        Checks.load(chess, "game 4 4;" + KINGS);
        Checks.due("empty behind a text", chess.truncateInput(1), false);
        Checks.load(chess, "#");
        Checks.due("empty behind an error", chess.truncateInput(1), false);
        Checks.due("appended to an empty buffer", chess.appendInput(0, 0, 0, 0, 0), 20);
        Checks.says("Returns the number of pieces; NONE if the text has an error.");
        chess.truncateInput(0);
        Checks.due("2 pieces", Checks.load(chess, "game 4 4;" + KINGS), 2);
        Checks.due("3 pieces", Checks.load(chess, "game 4 4;black pawn 1 1;" + KINGS), 3);
    }

    private static void errorOfTheLatestCall() {
        Checks.says("Returns the code; 0 without an error or such a call.");
        LanternChess chess = new LanternChess();
        Checks.due("no such call", chess.errorCode() + " " + chess.errorOffset(), "0 -1");
        Checks.type(chess, "game 9");
        Checks.due("no such call yet", chess.errorCode() + " " + chess.errorOffset(), "0 -1");
        chess.loadGame();
        Checks.due("an error", chess.errorCode() + " " + chess.errorOffset(), "2 5");
        Checks.type(chess, "game");
        chess.play(0, 0, 0, 1);
        chess.undo();
        Checks.due("it stays until the next call", chess.errorCode() + " " + chess.errorOffset(), "2 5");
        chess.loadGame();
        Checks.due("the next one", chess.errorCode() + " " + chess.errorOffset(), "1 4");
        Checks.says("Returns the offset; NONE without an error.");
        Checks.load(chess, "game 4 4;" + KINGS);
        Checks.due("no error", chess.errorCode() + " " + chess.errorOffset(), "0 -1");
        chess.loadGame();
        Checks.due("an error at offset 0", chess.errorCode() + " " + chess.errorOffset(), "1 0");
    }
}
