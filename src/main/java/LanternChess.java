import java.util.Arrays;
import java.util.NoSuchElementException;

/**
 * Chess between two towers that tell their moves by flashes of lanterns. The document calls its
 * rules promises; README.md tells how to use this class.
 */
public final class LanternChess {
    public static final int NONE = -1;
    public static final int CANNOT = -2;

    private static final int WHITE = 0;
    private static final int BLACK = 1;

    private static final int KING = 0;
    private static final int QUEEN = 1;
    private static final int ROOK = 2;
    private static final int BISHOP = 3;
    private static final int KNIGHT = 4;
    private static final int PAWN = 5;
    private static final int KINDS = 6;
    private static final int QUEENING_GAIN = 8;
    private static final String LETTERS = "KQRBNPkqrbnp";

    private static final int READ_NOT = 0;
    private static final int READ_NEW = 1;
    private static final int READ_SAME = 2;
    private static final int READ_OTHER = 3;

    // Inside, a row of cells is always 8 long, so that x and y come from a cell without a division.
    private static final int ROW = 8;
    private static final int CELLS = 64;
    private static final int LEAST_EDGE = 4;
    private static final int MOST_EDGE = 8;

    private static final int PIECES = 32;
    // A side has at most 31 pieces, and no piece has more than 27 moves.
    private static final int MOVES_ROOM = 837;
    private static final int FOGS = 8;
    private static final int LAST_FROM = 9999;
    private static final int MOST_LONG = 999;
    private static final int MOST_EVERY = 9;
    private static final int MOST_CLOCK = 9999;
    private static final int MOST_PAUSE = 5;
    private static final int MOST_WAIT = 9;
    private static final int MOST_TRIES = 9;
    private static final int MOST_TICKS = 999;
    private static final int LAST_TICK = 99999;
    private static final int MOST_CLEAR = 99;
    private static final int MOST_DELAY = 200;

    private static final int GROUPS = 6;
    private static final int CHECK = 5;
    private static final int LOG_ROWS = 20;
    private static final int LOG_PARTS = 8;
    private static final int SENT_PARTS = 8;
    private static final int MADE_PARTS = 6;
    private static final int CHANGES = 8;
    private static final int INPUT_ROOM = 600;
    // printMoves writes most: 20 moves of 5 bytes and at most 8 question marks, and 19 spaces.
    private static final int OUTPUT_ROOM = 279;

    private final SetupText setup = new SetupText();
    private final Game game = new Game();
    private final Game trial = new Game();
    private final Game saved = new Game();
    private boolean isSaved = false;
    private final History history = new History();
    private final Sending foretold = new Sending();
    private final MoveList list = new MoveList();
    private final Walk walk = new Walk();
    private final byte[] output = new byte[OUTPUT_ROOM];
    private int outputLength = 0;

    public LanternChess() {
        game.begin(5, 5);
        game.place(Field.cellOf(2, 0), KING);
        game.place(Field.cellOf(0, 0), ROOK);
        game.place(Field.cellOf(2, 4), KING + KINDS);
        game.place(Field.cellOf(4, 4), ROOK + KINDS);
    }

    // ---- input

    public int appendInput(int a, int b, int c, int d, int e) {
        if (!setup.hasRoom()) {
            return NONE;
        }
        setup.append(a);
        setup.append(b);
        setup.append(c);
        setup.append(d);
        setup.append(e);
        return setup.length;
    }

    public boolean truncateInput(int length) {
        if (length < 0 || length > setup.length) {
            return false;
        }
        setup.length = length;
        return true;
    }

    public int loadGame() {
        setup.read(trial);
        setup.length = 0;
        if (setup.code != 0) {
            return NONE;
        }
        game.copyFrom(trial);
        history.forget();
        isSaved = false;
        return setup.pieces;
    }

    public int errorCode() {
        return setup.code;
    }

    public int errorOffset() {
        return setup.offset;
    }

    // ---- what there is

    public int count(int what) throws IllegalArgumentException {
        switch (what) {
            case 0: return game.white.now.width;
            case 1: return game.white.now.height;
            case 2: return game.time;
            case 3: return game.toMove;
            case 4: return game.outcome;
            case 5: return game.pause;
            case 6: return game.waiting;
            case 7: return game.tries;
            case 8: return game.fogs.size;
            case 9: return game.white.made;
            case 10: return game.black.made;
            case 11: return game.answers.total;
            case 12: return game.sendings.total;
            case 13: return game.sendings.kept;
            case 14: return game.answers.kept;
            case 15: return history.size;
            default: throw new IllegalArgumentException("what is 0 to 15");
        }
    }

    public int clock(int side) throws IndexOutOfBoundsException {
        needSide(side);
        return game.clockOf(side);
    }

    public int piece(int board, int x, int y) throws IndexOutOfBoundsException, IllegalArgumentException {
        needSide(board);
        needCell(x, y);
        return game.boardOf(board).now.at(Field.cellOf(x, y));
    }

    public boolean isMove(int board, int side, int x, int y, int toX, int toY)
            throws IndexOutOfBoundsException, IllegalArgumentException {
        needSide(board);
        needSide(side);
        needCells(x, y, toX, toY);
        return game.boardOf(board).now.allows(side, Field.cellOf(x, y), Field.cellOf(toX, toY));
    }

    public int moves(int board, int side) throws IndexOutOfBoundsException {
        needSide(board);
        needSide(side);
        list.fill(game.boardOf(board).now, side);
        return list.size;
    }

    public int move(int board, int side, int index, int what)
            throws IndexOutOfBoundsException, IllegalArgumentException {
        needSide(board);
        needSide(side);
        Field field = game.boardOf(board).now;
        list.fill(field, side);
        needIndex(index, list.size);
        needRange(what, 0, 3);
        return moveInfo(field, side, index, what);
    }

    public int ranked(int rank, int what) throws IndexOutOfBoundsException, IllegalArgumentException {
        Field field = game.boardOf(game.toMove).now;
        list.fill(field, game.toMove);
        needIndex(rank, list.size);
        needRange(what, 0, 3);
        list.weigh(field, game.toMove);
        return moveInfo(field, game.toMove, list.placeOf(rank), what);
    }

    private int moveInfo(Field field, int side, int index, int what) {
        int from = list.fromOf(index);
        int to = list.toOf(index);
        switch (what) {
            case 0: return field.numberOf(from);
            case 1: return field.numberOf(to);
            case 2: return field.gainOf(from, to);
            default: return list.worthOf(field, side, from, to);
        }
    }

    public int attackers(int board, int side, int x, int y)
            throws IndexOutOfBoundsException, IllegalArgumentException {
        needSide(board);
        needSide(side);
        needCell(x, y);
        return game.boardOf(board).now.attacksOn(side, Field.cellOf(x, y));
    }

    public boolean isInCheck(int board, int side) throws IndexOutOfBoundsException {
        needSide(board);
        needSide(side);
        return game.boardOf(board).now.isKingExposed(side);
    }

    public int material(int board, int side) throws IndexOutOfBoundsException {
        needSide(board);
        needSide(side);
        return game.boardOf(board).now.valuesOf(side);
    }

    public int sum(int board) throws IndexOutOfBoundsException {
        needSide(board);
        return game.boardOf(board).now.total();
    }

    public int differ(int what) throws IllegalArgumentException {
        needRange(what, 0, 1);
        return what == 0 ? game.differences() : game.firstDifference();
    }

    public int fewestMoves(int board, int x, int y, int toX, int toY)
            throws IndexOutOfBoundsException, IllegalArgumentException {
        needSide(board);
        needCells(x, y, toX, toY);
        return walk.fewest(game.boardOf(board).now, Field.cellOf(x, y), Field.cellOf(toX, toY));
    }

    // ---- fog

    public boolean isHidden(int tick) throws IllegalArgumentException {
        needRange(tick, 0, LAST_TICK);
        return game.fogs.hides(tick);
    }

    public int hiddenTicks(int tick, int ticks) throws IllegalArgumentException {
        needRange(tick, 0, LAST_TICK);
        needRange(ticks, 0, MOST_TICKS);
        return ticks - game.fogs.clearOnes(tick, ticks);
    }

    public int clearFrom(int ticks) throws IllegalArgumentException {
        needRange(ticks, 1, MOST_CLEAR);
        return game.fogs.clearRun(game.time, ticks);
    }

    public int fog(int fog, int what) throws IndexOutOfBoundsException, IllegalArgumentException {
        needIndex(fog, game.fogs.size);
        needRange(what, 0, 3);
        return game.fogs.partOf(fog, what);
    }

    // ---- messages

    public int group(int x, int y, int toX, int toY, int group)
            throws IndexOutOfBoundsException, IllegalArgumentException {
        needIndex(group, GROUPS);
        foretellNow(x, y, toX, toY);
        return foretold.flashesOf(group);
    }

    public int seenOf(int x, int y, int toX, int toY, int group)
            throws IndexOutOfBoundsException, IllegalArgumentException {
        needIndex(group, GROUPS);
        foretellNow(x, y, toX, toY);
        return foretold.lookOf(group);
    }

    public int messageTicks(int x, int y, int toX, int toY) throws IllegalArgumentException {
        foretellNow(x, y, toX, toY);
        return foretold.messageLength;
    }

    public int readsAs(int x, int y, int toX, int toY) throws IllegalArgumentException {
        foretellNow(x, y, toX, toY);
        return foretold.reading;
    }

    private void foretellNow(int x, int y, int toX, int toY) {
        needCells(x, y, toX, toY);
        game.foretell(foretold, Field.cellOf(x, y), Field.cellOf(toX, toY), game.time);
    }

    public int ifPlayed(int x, int y, int toX, int toY, int what)
            throws IllegalArgumentException, IllegalStateException {
        needCells(x, y, toX, toY);
        needRange(what, 0, 3);
        needGoingOn();
        trial.copyFrom(game);
        int answer = trial.tell(foretold, Field.cellOf(x, y), Field.cellOf(toX, toY));
        switch (what) {
            case 0: return answer;
            case 1: return trial.time - game.time;
            case 2: return trial.differences();
            default: return trial.outcome == 0 ? 0 : 1;
        }
    }

    public int delay(int x, int y, int toX, int toY, int most)
            throws IllegalArgumentException, IllegalStateException {
        needCells(x, y, toX, toY);
        needRange(most, 0, MOST_DELAY);
        needGoingOn();
        int from = Field.cellOf(x, y);
        int to = Field.cellOf(toX, toY);
        if (!game.canMove(from, to)) {
            return CANNOT;
        }
        for (int ticks = 0; ticks <= most; ticks++) {
            game.foretell(foretold, from, to, game.time + ticks);
            int left = game.clockOf(game.toMove) - ticks;
            if (foretold.isAnswered && left > foretold.ticks) {
                return ticks;
            }
        }
        return NONE;
    }

    // ---- what was

    public int sent(int sending, int what) throws IndexOutOfBoundsException, IllegalArgumentException {
        needIndex(sending, game.sendings.kept);
        needRange(what, 0, SENT_PARTS - 1);
        return game.sendings.partOf(sending, what);
    }

    public int made(int move, int what) throws IndexOutOfBoundsException, IllegalArgumentException {
        needIndex(move, game.answers.kept);
        needRange(what, 0, MADE_PARTS - 1);
        int part = game.answers.partOf(move, what);
        return what == 1 || what == 2 ? game.white.now.numberOf(part) : part;
    }

    public double meanTries() {
        int kept = game.answers.kept;
        if (kept == 0) {
            return 0.0;
        }
        return (double) game.answers.partSum(4) / (double) kept;
    }

    public float hiddenShare() {
        Log log = game.sendings;
        int all = log.partSum(2) + log.partSum(5);
        if (all == 0) {
            return 0.0f;
        }
        int hidden = all - log.partSum(3) - log.partSum(6);
        return (float) hidden / (float) all;
    }

    // ---- changes

    public int play(int x, int y, int toX, int toY) throws IllegalArgumentException, IllegalStateException {
        needCells(x, y, toX, toY);
        needGoingOn();
        int from = Field.cellOf(x, y);
        int to = Field.cellOf(toX, toY);
        if (!game.canMove(from, to)) {
            return CANNOT;
        }
        history.keep(game);
        return game.tell(foretold, from, to);
    }

    public int think(int ticks) throws IllegalArgumentException, IllegalStateException {
        needRange(ticks, 1, MOST_TICKS);
        needGoingOn();
        history.keep(game);
        game.spend(ticks);
        return game.clockOf(game.toMove);
    }

    public int resign() throws IllegalStateException {
        needGoingOn();
        history.keep(game);
        int winner = 1 - game.toMove;
        game.endWith(winner);
        return winner;
    }

    public int settle(int side) throws IndexOutOfBoundsException {
        needSide(side);
        history.keep(game);
        int differed = game.differences();
        game.boardOf(1 - side).copyFrom(game.boardOf(side));
        return differed;
    }

    public int wind(int side, int ticks)
            throws IndexOutOfBoundsException, IllegalArgumentException, IllegalStateException {
        needSide(side);
        needRange(ticks, 1, MOST_TICKS);
        int wound = game.clockOf(side) + ticks;
        if (wound > MOST_CLOCK) {
            throw new IllegalStateException("the clock would be more than 9999");
        }
        history.keep(game);
        game.setClock(side, wound);
        return wound;
    }

    public int addFog(int from, int ticks, int every) throws IllegalArgumentException, IllegalStateException {
        needRange(from, 0, LAST_FROM);
        needRange(ticks, 1, MOST_LONG);
        needRange(every, 1, MOST_EVERY);
        if (game.fogs.isFull() || game.fogs.beginsAt(from)) {
            throw new IllegalStateException("there are 8 fogs, or one has this FROM");
        }
        history.keep(game);
        return game.fogs.put(from, ticks, every);
    }

    public int dropFog(int fog) throws IndexOutOfBoundsException {
        needIndex(fog, game.fogs.size);
        history.keep(game);
        game.fogs.take(fog);
        return game.fogs.size;
    }

    public int set(int what, int value) throws IllegalArgumentException {
        needRange(what, 5, 7);
        switch (what) {
            case 5: return setPause(value);
            case 6: return setWait(value);
            default: return setTries(value);
        }
    }

    private int setPause(int value) {
        needRange(value, 1, MOST_PAUSE);
        history.keep(game);
        int before = game.pause;
        game.pause = value;
        return before;
    }

    private int setWait(int value) {
        needRange(value, 0, MOST_WAIT);
        history.keep(game);
        int before = game.waiting;
        game.waiting = value;
        return before;
    }

    private int setTries(int value) {
        needRange(value, 1, MOST_TRIES);
        history.keep(game);
        int before = game.tries;
        game.tries = value;
        return before;
    }

    public int undo() throws NoSuchElementException {
        if (history.size == 0) {
            throw new NoSuchElementException("no change can be undone");
        }
        history.takeBack(game);
        return history.size;
    }

    // ---- output, saved state

    public int printRow(int board, int y) throws IndexOutOfBoundsException, IllegalArgumentException {
        needSide(board);
        Field field = game.boardOf(board).now;
        needRange(y, 0, field.height - 1);
        outputLength = 0;
        for (int x = 0; x < field.width; x++) {
            int code = field.at(Field.cellOf(x, y));
            write(code >= 0 && code < LETTERS.length() ? LETTERS.charAt(code) : '.');
        }
        return outputLength;
    }

    public int printMessage(int x, int y, int toX, int toY) throws IllegalArgumentException {
        foretellNow(x, y, toX, toY);
        outputLength = 0;
        int tick = game.time;
        for (int i = 0; i < GROUPS; i++) {
            if (i > 0) {
                write(' ');
            }
            for (int flash = 0; flash < foretold.flashesOf(i); flash++) {
                write(game.fogs.hides(tick) ? '.' : '*');
                tick++;
            }
            tick += game.pause;
        }
        return outputLength;
    }

    public int printMoves() {
        outputLength = 0;
        if (game.answers.kept == 0) {
            write('.');
        }
        for (int row = 0; row < game.answers.kept; row++) {
            if (row > 0) {
                write(' ');
            }
            writeMove(row);
        }
        return outputLength;
    }

    private void writeMove(int row) {
        Log log = game.answers;
        writeCell(log.partOf(row, 1));
        write(log.partOf(row, 3) == NONE ? '-' : 'x');
        writeCell(log.partOf(row, 2));
        for (int again = 1; again < log.partOf(row, 4); again++) {
            write('?');
        }
    }

    private void writeCell(int cell) {
        write((char) ('a' + Field.columnOf(cell)));
        write((char) ('1' + Field.rowOf(cell)));
    }

    private void write(char sign) {
        if (outputLength < output.length) {
            output[outputLength] = (byte) sign;
            outputLength++;
        }
    }

    public int outputByte(int index) {
        if (index < 0 || index >= outputLength || index >= output.length) {
            return NONE;
        }
        return output[index];
    }

    public int saveState() {
        saved.copyFrom(game);
        isSaved = true;
        return game.time;
    }

    public int restoreState() throws NoSuchElementException {
        if (!isSaved) {
            throw new NoSuchElementException("no state is saved");
        }
        game.copyFrom(saved);
        history.forget();
        return game.time;
    }

    // ---- what the arguments must be

    private static void needSide(int side) {
        if (side != WHITE && side != BLACK) {
            throw new IndexOutOfBoundsException("a board or a side is 0 or 1");
        }
    }

    private static void needIndex(int index, int size) {
        if (index < 0 || index >= size) {
            throw new IndexOutOfBoundsException("there are not so many");
        }
    }

    private static void needRange(int number, int least, int most) {
        if (number < least || number > most) {
            throw new IllegalArgumentException("a number is out of its range");
        }
    }

    private void needCell(int x, int y) {
        if (!game.white.now.hasCell(x, y)) {
            throw new IllegalArgumentException("a cell is not on the board");
        }
    }

    private void needCells(int x, int y, int toX, int toY) {
        needCell(x, y);
        needCell(toX, toY);
    }

    private void needGoingOn() {
        if (game.outcome != 0) {
            throw new IllegalStateException("the game is over");
        }
    }

    /** The pieces on the cells of a board, each told by its kind, and 6 more if it is black. */
    static final class Field {
        private static final int[] VALUES = {100, 9, 5, 3, 3, 1};

        private final int[] cells = new int[CELLS];
        int width = 0;
        int height = 0;

        void begin(int newWidth, int newHeight) {
            width = newWidth;
            height = newHeight;
            Arrays.fill(cells, NONE);
        }

        void copyFrom(Field other) {
            width = other.width;
            height = other.height;
            System.arraycopy(other.cells, 0, cells, 0, CELLS);
        }

        static int cellOf(int x, int y) {
            return x + ROW * y;
        }

        static int columnOf(int cell) {
            return cell & (ROW - 1);
        }

        static int rowOf(int cell) {
            return cell >> 3;
        }

        boolean hasCell(int x, int y) {
            return x >= 0 && x < width && y >= 0 && y < height;
        }

        int numberOf(int cell) {
            return (cell & (ROW - 1)) + width * (cell >> 3);
        }

        int at(int cell) {
            return cell >= 0 && cell < CELLS ? cells[cell] : NONE;
        }

        void put(int cell, int code) {
            if (cell >= 0 && cell < CELLS) {
                cells[cell] = code;
            }
        }

        static boolean isOf(int code, int side) {
            return side == WHITE ? code >= 0 && code < KINDS : code >= KINDS;
        }

        static int valueOf(int code) {
            int kind = code % KINDS;
            return code >= 0 && kind < VALUES.length ? VALUES[kind] : 0;
        }

        /** Tells whether a side may move what stands on a cell to another one. */
        boolean allows(int side, int from, int to) {
            int code = at(from);
            int taken = at(to);
            if (!isOf(code, side) || isOf(taken, side)) {
                return false;
            }
            return hasCell(columnOf(to), rowOf(to)) && reaches(code, from, to, taken != NONE);
        }

        /** Tells whether a piece could go from a cell to another one, to take there or to stand on it. */
        boolean reaches(int code, int from, int to, boolean takes) {
            int alongX = columnOf(to) - columnOf(from);
            int alongY = rowOf(to) - rowOf(from);
            int wide = Math.abs(alongX);
            int high = Math.abs(alongY);
            int steps = Math.max(wide, high);
            boolean isStraight = wide == 0 || high == 0;
            boolean isSlanting = wide == high;
            int step = Integer.signum(alongX) + ROW * Integer.signum(alongY);
            if (steps == 0) {
                return false;
            }
            switch (code % KINDS) {
                case KING: return steps == 1;
                case QUEEN: return (isStraight || isSlanting) && isClear(from, step, steps);
                case ROOK: return isStraight && isClear(from, step, steps);
                case BISHOP: return isSlanting && isClear(from, step, steps);
                case KNIGHT: return wide * high == 2;
                default: return alongY == (code < KINDS ? 1 : -1) && wide == (takes ? 1 : 0);
            }
        }

        private boolean isClear(int from, int step, int steps) {
            int cell = from;
            for (int i = 1; i < steps; i++) {
                cell += step;
                if (cell < 0 || cell >= CELLS || cells[cell] != NONE) {
                    return false;
                }
            }
            return true;
        }

        private boolean becomesQueen(int code, int to) {
            if (code == PAWN) {
                return rowOf(to) == height - 1;
            }
            return code == PAWN + KINDS && rowOf(to) == 0;
        }

        /** The piece that stands on the last cell behind a move. */
        private int arriving(int from, int to) {
            int code = at(from);
            return becomesQueen(code, to) ? code - PAWN + QUEEN : code;
        }

        void carryOut(int from, int to) {
            int code = arriving(from, to);
            put(from, NONE);
            put(to, code);
        }

        int gainOf(int from, int to) {
            return valueOf(at(to)) + (becomesQueen(at(from), to) ? QUEENING_GAIN : 0);
        }

        int greatestGain(int side) {
            int greatest = 0;
            for (int from = 0; from < CELLS; from++) {
                if (!isOf(cells[from], side)) {
                    continue;
                }
                for (int to = 0; to < CELLS; to++) {
                    int gain = gainOf(from, to);
                    if (gain > greatest && allows(side, from, to)) {
                        greatest = gain;
                    }
                }
            }
            return greatest;
        }

        int attacksOn(int side, int to) {
            int attacks = 0;
            for (int from = 0; from < CELLS; from++) {
                if (isOf(cells[from], side) && reaches(cells[from], from, to, true)) {
                    attacks++;
                }
            }
            return attacks;
        }

        boolean isKingExposed(int side) {
            for (int cell = 0; cell < CELLS; cell++) {
                if (cells[cell] == KING + KINDS * side) {
                    return attacksOn(1 - side, cell) > 0;
                }
            }
            return false;
        }

        int valuesOf(int side) {
            int values = 0;
            for (int cell = 0; cell < CELLS; cell++) {
                if (isOf(cells[cell], side)) {
                    values += valueOf(cells[cell]);
                }
            }
            return values;
        }

        private int weightOf(int cell, int code) {
            return code == NONE ? 0 : (numberOf(cell) + 1) * (code + 1);
        }

        /** The SUM of the board. */
        int total() {
            int total = 0;
            for (int cell = 0; cell < CELLS; cell++) {
                total += weightOf(cell, cells[cell]);
            }
            return total;
        }

        /** The SUM that the board has with a move. */
        int totalWith(int from, int to) {
            return total() - weightOf(from, at(from)) - weightOf(to, at(to)) + weightOf(to, arriving(from, to));
        }

        int differences(Field other) {
            int differences = 0;
            for (int cell = 0; cell < CELLS; cell++) {
                if (cells[cell] != other.cells[cell]) {
                    differences++;
                }
            }
            return differences;
        }

        int firstDifference(Field other) {
            for (int cell = 0; cell < CELLS; cell++) {
                if (cells[cell] != other.cells[cell]) {
                    return numberOf(cell);
                }
            }
            return NONE;
        }
    }

    /** The board of a tower, with what it needs to put its latest move right. */
    static final class Board {
        final Field now = new Field();
        private final Field before = new Field();
        int made = 0;
        private int latestSide = NONE;
        private int latestFrom = NONE;
        private int latestTo = NONE;

        void begin(int width, int height) {
            now.begin(width, height);
            before.begin(width, height);
            made = 0;
            latestSide = NONE;
            latestFrom = NONE;
            latestTo = NONE;
        }

        void copyFrom(Board other) {
            now.copyFrom(other.now);
            before.copyFrom(other.before);
            made = other.made;
            latestSide = other.latestSide;
            latestFrom = other.latestFrom;
            latestTo = other.latestTo;
        }

        void carryOut(int side, int from, int to) {
            before.copyFrom(now);
            now.carryOut(from, to);
            made++;
            latestSide = side;
            latestFrom = from;
            latestTo = to;
        }

        private void putRight(int from, int to) {
            now.copyFrom(before);
            now.carryOut(from, to);
            latestFrom = from;
            latestTo = to;
        }

        /** The first group of the message of a move that is made next on this board. */
        int turnFlashes() {
            return 1 + (made & 1);
        }

        int readingOf(int side, int turn, int from, int to) {
            if (turn == turnFlashes()) {
                return now.allows(side, from, to) ? READ_NEW : READ_NOT;
            }
            if (made == 0 || latestSide != side) {
                return READ_NOT;
            }
            if (from == latestFrom && to == latestTo) {
                return READ_SAME;
            }
            return before.allows(side, from, to) ? READ_OTHER : READ_NOT;
        }

        int totalBehind(int reading, int from, int to) {
            switch (reading) {
                case READ_NEW: return now.totalWith(from, to);
                case READ_OTHER: return before.totalWith(from, to);
                default: return now.total();
            }
        }

        void follow(int reading, int side, int from, int to) {
            if (reading == READ_NEW) {
                carryOut(side, from, to);
            } else if (reading == READ_OTHER) {
                putRight(from, to);
            }
        }
    }

    /** The fogs, in the order of their first ticks. */
    static final class Fogs {
        private final int[] first = new int[FOGS];
        private final int[] lasting = new int[FOGS];
        private final int[] every = new int[FOGS];
        int size = 0;

        void copyFrom(Fogs other) {
            System.arraycopy(other.first, 0, first, 0, FOGS);
            System.arraycopy(other.lasting, 0, lasting, 0, FOGS);
            System.arraycopy(other.every, 0, every, 0, FOGS);
            size = other.size;
        }

        boolean isFull() {
            return size >= FOGS;
        }

        boolean beginsAt(int from) {
            for (int i = 0; i < size && i < FOGS; i++) {
                if (first[i] == from) {
                    return true;
                }
            }
            return false;
        }

        int put(int from, int ticks, int step) {
            if (size < 0 || size >= FOGS) {
                return NONE;
            }
            int place = size;
            for (int i = size; i > 0 && first[i - 1] > from; i--) {
                first[i] = first[i - 1];
                lasting[i] = lasting[i - 1];
                every[i] = every[i - 1];
                place = i - 1;
            }
            first[place] = from;
            lasting[place] = ticks;
            every[place] = step;
            size++;
            return place;
        }

        void take(int fog) {
            if (fog < 0 || fog >= size) {
                return;
            }
            for (int i = fog; i + 1 < size && i + 1 < FOGS; i++) {
                first[i] = first[i + 1];
                lasting[i] = lasting[i + 1];
                every[i] = every[i + 1];
            }
            size--;
        }

        int partOf(int fog, int what) {
            if (fog < 0 || fog >= FOGS) {
                return NONE;
            }
            switch (what) {
                case 0: return first[fog];
                case 1: return lasting[fog];
                case 2: return every[fog];
                default: return every[fog] < 1 ? 0 : (lasting[fog] + every[fog] - 1) / every[fog];
            }
        }

        boolean hides(int tick) {
            for (int i = 0; i < size && i < FOGS; i++) {
                int since = tick - first[i];
                if (since >= 0 && since < lasting[i] && every[i] > 0 && since % every[i] == 0) {
                    return true;
                }
            }
            return false;
        }

        /** Counts those of some ticks that no fog hides. */
        int clearOnes(int begin, int ticks) {
            int clear = 0;
            for (int i = 0; i < ticks; i++) {
                if (!hides(begin + i)) {
                    clear++;
                }
            }
            return clear;
        }

        int clearRun(int begin, int ticks) {
            int start = begin;
            // All fogs end by LAST_FROM + MOST_LONG, so that a run is found long before this bound.
            int bound = begin + LAST_FROM + MOST_LONG + ticks;
            for (int tick = begin; tick - start < ticks && tick < bound; tick++) {
                if (hides(tick)) {
                    start = tick + 1;
                }
            }
            return start;
        }
    }

    /** The latest 20 rows of numbers, the earliest one first. */
    static final class Log {
        private final int[] numbers = new int[LOG_ROWS * LOG_PARTS];
        int kept = 0;
        int total = 0;

        void copyFrom(Log other) {
            System.arraycopy(other.numbers, 0, numbers, 0, numbers.length);
            kept = other.kept;
            total = other.total;
        }

        void clear() {
            kept = 0;
            total = 0;
        }

        void openRow() {
            if (kept < LOG_ROWS) {
                kept++;
            } else {
                System.arraycopy(numbers, LOG_PARTS, numbers, 0, (LOG_ROWS - 1) * LOG_PARTS);
            }
            total++;
        }

        /** Writes a part of the latest row. */
        void note(int part, int number) {
            int place = (kept - 1) * LOG_PARTS + part;
            if (place >= 0 && place < numbers.length) {
                numbers[place] = number;
            }
        }

        int partOf(int row, int part) {
            int place = row * LOG_PARTS + part;
            return place >= 0 && place < numbers.length ? numbers[place] : NONE;
        }

        int partSum(int part) {
            int partSum = 0;
            for (int row = 0; row < kept; row++) {
                partSum += partOf(row, part);
            }
            return partSum;
        }
    }

    /** A sending as it would be if its message began at a tick: what is told, seen, read and answered. */
    static final class Sending {
        private final int[] flashes = new int[GROUPS];
        private final int[] looks = new int[GROUPS];
        int messageLength = 0;
        int reading = READ_NOT;
        int answer = 0;
        int answerSeen = 0;
        boolean isAnswered = false;
        /** All ticks from the first one of the message, up to the end of the pause behind the answer. */
        int ticks = 0;

        int flashesOf(int i) {
            return i >= 0 && i < GROUPS ? flashes[i] : 0;
        }

        int lookOf(int i) {
            return i >= 0 && i < GROUPS ? looks[i] : 0;
        }

        void compose(int turn, int from, int to) {
            flashes[0] = turn;
            flashes[1] = Field.columnOf(from) + 1;
            flashes[2] = Field.rowOf(from) + 1;
            flashes[3] = Field.columnOf(to) + 1;
            flashes[4] = Field.rowOf(to) + 1;
            flashes[CHECK] = checkOf(flashes);
        }

        private static int checkOf(int[] groups) {
            int ahead = 0;
            for (int i = 0; i < CHECK && i < groups.length; i++) {
                ahead += groups[i];
            }
            return 1 + ahead % 7;
        }

        void watch(Fogs fogs, int begin, int pause) {
            int tick = begin;
            for (int i = 0; i < GROUPS; i++) {
                looks[i] = fogs.clearOnes(tick, flashes[i]);
                tick += flashes[i] + pause;
            }
            messageLength = tick - begin;
        }

        /** Tells whether what is seen has a turn, cells of the board and a right check. */
        boolean isWhole(Field field) {
            boolean isTurn = looks[0] == 1 || looks[0] == 2;
            boolean isFirst = field.hasCell(looks[1] - 1, looks[2] - 1);
            boolean isLast = field.hasCell(looks[3] - 1, looks[4] - 1);
            return isTurn && isFirst && isLast && looks[CHECK] == checkOf(looks);
        }

        int seenFrom() {
            return Field.cellOf(looks[1] - 1, looks[2] - 1);
        }

        int seenTo() {
            return Field.cellOf(looks[3] - 1, looks[4] - 1);
        }

        int allFlashes() {
            return sumOf(flashes);
        }

        int allLooks() {
            return sumOf(looks);
        }

        private static int sumOf(int[] groups) {
            int all = 0;
            for (int i = 0; i < groups.length; i++) {
                all += groups[i];
            }
            return all;
        }
    }

    /** All that a saved state holds and that a change can be undone to. */
    static final class Game {
        final Board white = new Board();
        final Board black = new Board();
        final Fogs fogs = new Fogs();
        final Log sendings = new Log();
        final Log answers = new Log();
        int time = 0;
        int toMove = WHITE;
        int outcome = 0;
        int pause = 0;
        int waiting = 0;
        int tries = 0;
        private int whiteClock = 0;
        private int blackClock = 0;

        void begin(int width, int height) {
            white.begin(width, height);
            black.begin(width, height);
            fogs.size = 0;
            sendings.clear();
            answers.clear();
            time = 0;
            toMove = WHITE;
            outcome = 0;
            pause = 2;
            waiting = 3;
            tries = 4;
            whiteClock = 1000;
            blackClock = 1000;
        }

        void copyFrom(Game other) {
            white.copyFrom(other.white);
            black.copyFrom(other.black);
            fogs.copyFrom(other.fogs);
            sendings.copyFrom(other.sendings);
            answers.copyFrom(other.answers);
            time = other.time;
            toMove = other.toMove;
            outcome = other.outcome;
            pause = other.pause;
            waiting = other.waiting;
            tries = other.tries;
            whiteClock = other.whiteClock;
            blackClock = other.blackClock;
        }

        void place(int cell, int code) {
            white.now.put(cell, code);
            black.now.put(cell, code);
        }

        Board boardOf(int side) {
            return side == WHITE ? white : black;
        }

        int clockOf(int side) {
            return side == WHITE ? whiteClock : blackClock;
        }

        void setClock(int side, int ticks) {
            if (side == WHITE) {
                whiteClock = ticks;
            } else {
                blackClock = ticks;
            }
        }

        int differences() {
            return white.now.differences(black.now);
        }

        int firstDifference() {
            return white.now.firstDifference(black.now);
        }

        boolean canMove(int from, int to) {
            return boardOf(toMove).now.allows(toMove, from, to);
        }

        void endWith(int winner) {
            outcome = winner + 1;
        }

        /** Lets ticks pass on the clock of the side to move; tells whether the clock is greater. */
        boolean spend(int ticks) {
            int left = clockOf(toMove);
            int passing = Math.min(left, ticks);
            time += passing;
            setClock(toMove, left - passing);
            if (left <= ticks) {
                endWith(1 - toMove);
            }
            return left > ticks;
        }

        /** Works out a sending whose message begins at a tick, and changes nothing of the game. */
        void foretell(Sending sending, int from, int to, int begin) {
            Board sender = boardOf(toMove);
            Board receiver = boardOf(1 - toMove);
            sending.compose(sender.turnFlashes(), from, to);
            sending.watch(fogs, begin, pause);
            sending.reading = READ_NOT;
            if (sending.isWhole(receiver.now)) {
                int turn = sending.lookOf(0);
                sending.reading = receiver.readingOf(toMove, turn, sending.seenFrom(), sending.seenTo());
            }
            sending.answer = 1;
            if (sending.reading != READ_NOT) {
                sending.answer = 2 + receiver.totalBehind(sending.reading, sending.seenFrom(), sending.seenTo()) % 5;
            }
            sending.answerSeen = fogs.clearOnes(begin + sending.messageLength, sending.answer);
            sending.isAnswered = sending.answerSeen == 2 + sender.now.totalWith(from, to) % 5;
            sending.ticks = sending.messageLength + sending.answer + pause;
        }

        /** Plays a move of the side to move; the answer is that of play(). */
        int tell(Sending sending, int from, int to) {
            if (!canMove(from, to)) {
                return CANNOT;
            }
            for (int times = 1; times <= tries; times++) {
                int wait = times == 1 ? 0 : waiting;
                int begin = time + wait;
                foretell(sending, from, to, begin);
                if (!spend(wait + sending.ticks)) {
                    return NONE;
                }
                noteSending(sending, begin);
                boardOf(1 - toMove).follow(sending.reading, toMove, sending.seenFrom(), sending.seenTo());
                if (sending.isAnswered) {
                    finishMove(from, to, times);
                    return times;
                }
            }
            return 0;
        }

        private void noteSending(Sending sending, int begin) {
            sendings.openRow();
            sendings.note(0, begin);
            sendings.note(1, toMove);
            sendings.note(2, sending.allFlashes());
            sendings.note(3, sending.allLooks());
            sendings.note(4, sending.reading);
            sendings.note(5, sending.answer);
            sendings.note(6, sending.answerSeen);
            sendings.note(7, sending.isAnswered ? 1 : 0);
        }

        private void finishMove(int from, int to, int times) {
            Board sender = boardOf(toMove);
            int taken = sender.now.at(to);
            int kind = taken == NONE ? NONE : taken % KINDS;
            sender.carryOut(toMove, from, to);
            answers.openRow();
            answers.note(0, toMove);
            answers.note(1, from);
            answers.note(2, to);
            answers.note(3, kind);
            answers.note(4, times);
            answers.note(5, time);
            if (kind == KING) {
                endWith(toMove);
            }
            toMove = 1 - toMove;
        }
    }

    /** The games as they were ahead of the latest changes. */
    static final class History {
        private final Game[] games = new Game[CHANGES];
        private int next = 0;
        int size = 0;

        History() {
            for (int i = 0; i < CHANGES; i++) {
                games[i] = new Game();
            }
        }

        void forget() {
            size = 0;
        }

        void keep(Game game) {
            Game kept = games[next & (CHANGES - 1)];
            if (kept != null) {
                kept.copyFrom(game);
            }
            next = (next + 1) & (CHANGES - 1);
            size = Math.min(size + 1, CHANGES);
        }

        void takeBack(Game game) {
            next = (next - 1) & (CHANGES - 1);
            size--;
            Game kept = games[next & (CHANGES - 1)];
            if (kept != null) {
                game.copyFrom(kept);
            }
        }
    }

    /** The moves of a side on a board, in order. */
    static final class MoveList {
        private final int[] froms = new int[MOVES_ROOM];
        private final int[] tos = new int[MOVES_ROOM];
        private final int[] worths = new int[MOVES_ROOM];
        private final Field behind = new Field();
        int size = 0;

        void fill(Field field, int side) {
            size = 0;
            for (int from = 0; from < CELLS; from++) {
                if (Field.isOf(field.at(from), side)) {
                    fillFrom(field, side, from);
                }
            }
        }

        private void fillFrom(Field field, int side, int from) {
            for (int to = 0; to < CELLS; to++) {
                if (size < MOVES_ROOM && field.allows(side, from, to)) {
                    froms[size] = from;
                    tos[size] = to;
                    size++;
                }
            }
        }

        int fromOf(int index) {
            return index >= 0 && index < MOVES_ROOM ? froms[index] : NONE;
        }

        int toOf(int index) {
            return index >= 0 && index < MOVES_ROOM ? tos[index] : NONE;
        }

        int worthOf(Field field, int side, int from, int to) {
            int gain = field.gainOf(from, to);
            if (field.at(to) == KING + KINDS * (1 - side)) {
                return gain;
            }
            behind.copyFrom(field);
            behind.carryOut(from, to);
            return gain - behind.greatestGain(1 - side);
        }

        void weigh(Field field, int side) {
            for (int i = 0; i < size && i < MOVES_ROOM; i++) {
                worths[i] = worthOf(field, side, froms[i], tos[i]);
            }
        }

        /** Finds the place in the order of the move that has a rank by the worths that were weighed. */
        int placeOf(int rank) {
            for (int i = 0; i < size && i < MOVES_ROOM; i++) {
                if (rankOf(i) == rank) {
                    return i;
                }
            }
            return NONE;
        }

        private int rankOf(int index) {
            if (index < 0 || index >= MOVES_ROOM) {
                return NONE;
            }
            int ahead = 0;
            for (int i = 0; i < size && i < MOVES_ROOM; i++) {
                if (worths[i] > worths[index] || (worths[i] == worths[index] && i < index)) {
                    ahead++;
                }
            }
            return ahead;
        }
    }

    /** The way of one piece over a board on which all others stay. */
    static final class Walk {
        private final Field others = new Field();
        private final int[] distance = new int[CELLS];
        private final int[] queue = new int[CELLS];
        private int queued = 0;

        int fewest(Field field, int from, int to) {
            int code = field.at(from);
            if (code == NONE) {
                return NONE;
            }
            others.copyFrom(field);
            others.put(from, NONE);
            Arrays.fill(distance, NONE);
            queued = 0;
            enter(from, 0);
            for (int i = 0; i < queued && i < CELLS; i++) {
                goOnFrom(code, queue[i], to);
            }
            return to >= 0 && to < CELLS ? distance[to] : NONE;
        }

        private void enter(int cell, int moves) {
            if (cell < 0 || cell >= CELLS || distance[cell] != NONE) {
                return;
            }
            distance[cell] = moves;
            // A cell on which the piece takes is not queued: taking ends its way.
            if (others.at(cell) == NONE && queued < CELLS) {
                queue[queued] = cell;
                queued++;
            }
        }

        private void goOnFrom(int code, int cell, int goal) {
            if (cell < 0 || cell >= CELLS) {
                return;
            }
            int side = code < KINDS ? WHITE : BLACK;
            for (int next = 0; next < CELLS; next++) {
                int taken = others.at(next);
                boolean isOpen = taken == NONE || (next == goal && !Field.isOf(taken, side));
                boolean isOnBoard = others.hasCell(Field.columnOf(next), Field.rowOf(next));
                if (isOpen && isOnBoard && distance[next] == NONE
                        && others.reaches(code, cell, next, taken != NONE)) {
                    enter(next, distance[cell] + 1);
                }
            }
        }
    }

    /** The input buffer, and the reading of a setup text from it. */
    static final class SetupText {
        private static final int APPENDED = 20;
        private static final int MOST_DIGITS = 4;

        private static final int END = 0;
        private static final int WORD = 1;
        private static final int NUMBER = 2;
        private static final int SEMICOLON = 3;
        private static final int NO_TOKEN = 4;

        private static final int CLOCK_TOLD = 1;
        private static final int PAUSE_TOLD = 2;
        private static final int WAIT_TOLD = 4;
        private static final int TRIES_TOLD = 8;
        private static final int WHITE_KING_TOLD = 16;
        private static final int BLACK_KING_TOLD = 32;

        private final byte[] text = new byte[INPUT_ROOM];
        int length = 0;
        int code = 0;
        int offset = NONE;
        int pieces = 0;
        private int told = 0;
        private int position = 0;
        private int tokenKind = END;
        private int tokenStart = 0;
        private int takenStart = 0;

        boolean hasRoom() {
            return length + APPENDED <= INPUT_ROOM;
        }

        void append(int bytes) {
            for (int shift = 24; shift >= 0; shift -= 8) {
                if (length >= 0 && length < INPUT_ROOM) {
                    text[length] = (byte) (bytes >> shift);
                    length++;
                }
            }
        }

        /** Reads the text into a game, which is of no use if there is an error. */
        void read(Game game) {
            code = 0;
            offset = NONE;
            pieces = 0;
            told = 0;
            position = 0;
            takeToken();
            takeWord("game");
            int width = takeNumber(LEAST_EDGE, MOST_EDGE);
            int height = takeNumber(LEAST_EDGE, MOST_EDGE);
            takeSemicolon();
            game.begin(width, height);
            for (int i = 0; i < INPUT_ROOM && code == 0 && tokenKind != END; i++) {
                readStatement(game);
                takeSemicolon();
            }
            int kings = WHITE_KING_TOLD | BLACK_KING_TOLD;
            if ((told & kings) != kings) {
                fail(5, length);
            }
        }

        private void readStatement(Game game) {
            if (isWord("clock")) {
                takeOnce(CLOCK_TOLD);
                game.setClock(WHITE, takeNumber(1, MOST_CLOCK));
                game.setClock(BLACK, takeNumber(1, MOST_CLOCK));
            } else if (isWord("pause")) {
                takeOnce(PAUSE_TOLD);
                game.pause = takeNumber(1, MOST_PAUSE);
            } else if (isWord("wait")) {
                takeOnce(WAIT_TOLD);
                game.waiting = takeNumber(0, MOST_WAIT);
            } else if (isWord("tries")) {
                takeOnce(TRIES_TOLD);
                game.tries = takeNumber(1, MOST_TRIES);
            } else if (isWord("white")) {
                readPiece(game, WHITE);
            } else if (isWord("black")) {
                readPiece(game, BLACK);
            } else if (isWord("fog")) {
                readFog(game);
            } else {
                fail(1, tokenStart);
            }
        }

        private void readPiece(Game game, int side) {
            if (pieces >= PIECES) {
                fail(4, tokenStart);
            }
            takeToken();
            int kind = takeKind(side);
            int x = takeNumber(0, game.white.now.width - 1);
            int y = takeNumber(0, game.white.now.height - 1);
            int cell = Field.cellOf(x, y);
            if (game.white.now.at(cell) != NONE) {
                fail(3, takenStart);
            }
            game.place(cell, kind + KINDS * side);
            pieces++;
        }

        private void readFog(Game game) {
            if (game.fogs.isFull()) {
                fail(4, tokenStart);
            }
            takeToken();
            int from = takeNumber(0, LAST_FROM);
            if (game.fogs.beginsAt(from)) {
                fail(3, takenStart);
            }
            int ticks = takeNumber(1, MOST_LONG);
            int every = takeNumber(1, MOST_EVERY);
            game.fogs.put(from, ticks, every);
        }

        private int takeKind(int side) {
            int kind = kindOfWord();
            if (kind == NONE) {
                fail(1, tokenStart);
            }
            if (kind == KING) {
                takeOnce(side == WHITE ? WHITE_KING_TOLD : BLACK_KING_TOLD);
            } else {
                takeToken();
            }
            return kind;
        }

        private int kindOfWord() {
            if (isWord("king")) {
                return KING;
            }
            if (isWord("queen")) {
                return QUEEN;
            }
            if (isWord("rook")) {
                return ROOK;
            }
            if (isWord("bishop")) {
                return BISHOP;
            }
            if (isWord("knight")) {
                return KNIGHT;
            }
            return isWord("pawn") ? PAWN : NONE;
        }

        /** Takes a token that a text may have but once. */
        private void takeOnce(int mark) {
            if ((told & mark) != 0) {
                fail(3, tokenStart);
            }
            told |= mark;
            takeToken();
        }

        private void takeWord(String word) {
            if (!isWord(word)) {
                fail(1, tokenStart);
            }
            takeToken();
        }

        private void takeSemicolon() {
            if (tokenKind != SEMICOLON) {
                fail(1, tokenStart);
            }
            takeToken();
        }

        /** Takes a number; one that is at fault counts as the least one, so that reading can go on. */
        private int takeNumber(int least, int most) {
            int number = least;
            if (tokenKind != NUMBER) {
                fail(1, tokenStart);
            } else {
                number = numberOfToken();
            }
            if (number < least || number > most) {
                fail(2, tokenStart);
                number = least;
            }
            takeToken();
            return number;
        }

        private int numberOfToken() {
            int number = 0;
            for (int i = tokenStart; i < position; i++) {
                number = 10 * number + byteAt(i) - '0';
            }
            return number;
        }

        private boolean isWord(String word) {
            if (tokenKind != WORD || position - tokenStart != word.length()) {
                return false;
            }
            for (int i = 0; i < word.length(); i++) {
                if (byteAt(tokenStart + i) != word.charAt(i)) {
                    return false;
                }
            }
            return true;
        }

        /** Keeps an error; the first one from the left comes first, and no later one replaces it. */
        private void fail(int newCode, int newOffset) {
            if (code == 0) {
                code = newCode;
                offset = newOffset;
            }
        }

        /** Takes the token that was looked at, and looks at the next one. */
        private void takeToken() {
            takenStart = tokenStart;
            while (position < length && (byteAt(position) == ' ' || byteAt(position) == '\n')) {
                position++;
            }
            tokenStart = position;
            if (position >= length) {
                tokenKind = END;
            } else if (isLetter(byteAt(position))) {
                tokenKind = WORD;
                while (position < length && isLetter(byteAt(position))) {
                    position++;
                }
            } else if (isDigit(byteAt(position))) {
                while (position < length && isDigit(byteAt(position))) {
                    position++;
                }
                tokenKind = position - tokenStart > MOST_DIGITS ? NO_TOKEN : NUMBER;
            } else {
                tokenKind = byteAt(position) == ';' ? SEMICOLON : NO_TOKEN;
                position++;
            }
        }

        private int byteAt(int index) {
            return index >= 0 && index < length && index < INPUT_ROOM ? text[index] : NONE;
        }

        private static boolean isLetter(int sign) {
            return sign >= 'a' && sign <= 'z';
        }

        private static boolean isDigit(int sign) {
            return sign >= '0' && sign <= '9';
        }
    }
}
