/** The boundary cases of section 2 of the document and of promises 20 to 23, 39 and 40: time and fog. */
public final class EdgeFogTest {
    private static final String PIECES = "white king 2 0;white rook 0 0;black king 2 4;black rook 4 4;";

    private EdgeFogTest() {
    }

    public static void main(String[] args) {
        timeFromNought();
        eightFogs();
        firstTicks();
        numbersOfAFog();
        everyTick();
        everySecondTick();
        rareTicks();
        someFog();
        isHidden();
        hiddenTicks();
        clearFrom();
        clearFromNow();
        fog();
        fogHides();
        addFog();
        dropFog();
        Checks.end("EdgeFogTest");
    }

    private static void timeFromNought() {
        Checks.says("The time goes by ticks, from 0.");
        LanternChess chess = new LanternChess();
        Checks.due("the time of a new object", chess.count(2), 0);
        chess.think(1);
        Checks.due("a tick later", chess.count(2), 1);
        Checks.load(chess, "game 5 5;" + PIECES);
        Checks.due("the time of a game that was loaded", chess.count(2), 0);
    }

    private static void eightFogs() {
        Checks.says("There are at most 8 fogs");
        LanternChess chess = new LanternChess();
        for (int i = 0; i < 8; i++) {
            Checks.due("fog " + i, chess.addFog(10 * i, 1, 1), i);
        }
        Checks.due("8 fogs", chess.count(8), 8);
        String before = Checks.state(chess);
        Checks.dueState("a ninth fog behind them", () -> chess.addFog(80, 1, 1));
        Checks.dueState("a ninth fog ahead of them", () -> chess.addFog(5, 1, 1));
        Checks.due("nothing is changed", Checks.state(chess), before);
        Checks.due("one fog is taken away", chess.dropFog(7), 7);
        Checks.due("there is room again", chess.addFog(5, 1, 1), 1);
        Checks.due("the last one moved on", chess.fog(7, 0), 60);
    }

    private static void firstTicks() {
        Checks.says("no two with the same first tick, numbered from 0 by their first ticks");
        LanternChess chess = new LanternChess();
        chess.addFog(9999, 1, 1);
        Checks.due("ahead of it", chess.addFog(9998, 2, 1), 0);
        Checks.due("the first of all ticks", chess.addFog(0, 3, 1), 0);
        Checks.due("behind that", chess.addFog(1, 4, 1), 1);
        Checks.due("the numbers", "" + chess.fog(0, 1) + chess.fog(1, 1) + chess.fog(2, 1) + chess.fog(3, 1), "3421");
        for (int from : new int[] {0, 1, 9998, 9999}) {
            Checks.dueState("another one from " + from, () -> chess.addFog(from, 5, 5));
        }
        Checks.due("a tick beside it", chess.addFog(2, 5, 5), 2);
        chess.dropFog(0);
        Checks.due("the tick of a fog that was taken away", chess.addFog(0, 6, 1), 0);
    }

    private static void numbersOfAFog() {
        Checks.says("a fog has a first tick FROM (0 to 9999), LONG (1 to 999) and EVERY (1 to 9)");
        Checks.dueArgumentRange("FROM", 0, 9999, n -> new LanternChess().addFog(n, 1, 1));
        Checks.dueArgumentRange("LONG", 1, 999, n -> new LanternChess().addFog(0, n, 1));
        Checks.dueArgumentRange("EVERY", 1, 9, n -> new LanternChess().addFog(0, 1, n));
        LanternChess chess = new LanternChess();
        chess.addFog(9999, 999, 9);
        chess.addFog(0, 1, 1);
        Checks.due("the greatest ones", chess.fog(1, 0) + " " + chess.fog(1, 1) + " " + chess.fog(1, 2), "9999 999 9");
        Checks.due("the least ones", chess.fog(0, 0) + " " + chess.fog(0, 1) + " " + chess.fog(0, 2), "0 1 1");
    }

    private static String ticks(LanternChess chess, int first, int last) {
        StringBuilder hidden = new StringBuilder();
        for (int tick = first; tick <= last; tick++) {
            hidden.append(chess.isHidden(tick) ? '.' : '*');
        }
        return hidden.toString();
    }

    /** What one fog leaves of the ticks from a first one on: a point is hidden, an asterisk is not. */
    private static void leaves(int from, int lasting, int every, int first, String want) {
        LanternChess chess = new LanternChess();
        chess.addFog(from, lasting, every);
        Checks.due("ticks from " + first + " with the fog " + from + "/" + lasting + "/" + every,
            ticks(chess, first, first + want.length() - 1), want);
    }

    private static void everyTick() {
        Checks.says("it hides a tick that is not before FROM and before FROM plus LONG, if the tick less FROM is a "
            + "multiple of EVERY.");
        leaves(20, 5, 1, 18, "**.....**");
        leaves(20, 1, 1, 18, "**.**");
        leaves(0, 2, 1, 0, "..**");
        leaves(9999, 999, 1, 9997, "**...");
        leaves(9999, 999, 1, 10995, "...***");
    }

    private static void everySecondTick() {
        leaves(21, 5, 2, 19, "**.*.*.***");
        leaves(21, 6, 2, 19, "**.*.*.***");
        leaves(21, 7, 2, 19, "**.*.*.*.*");
    }

    private static void rareTicks() {
        leaves(30, 9, 9, 28, "**.**********");
        leaves(30, 10, 9, 28, "**.********.*");
        leaves(30, 3, 8, 28, "**.**********");
        leaves(9999, 999, 9, 10980, ".********.*********");
    }

    private static void someFog() {
        Checks.says("A flash is seen unless a fog hides its tick.");
        LanternChess chess = new LanternChess();
        chess.addFog(12, 5, 4);
        chess.addFog(13, 2, 1);
        Checks.due("of 5 flashes from 12 on, two fogs hide 12 and 16, 13 and 14", chess.seenOf(0, 0, 0, 4, 4), 1);
        chess.dropFog(1);
        Checks.due("one fog hides 12 and 16", chess.seenOf(0, 0, 0, 4, 4), 3);
        chess.dropFog(0);
        Checks.due("no fog", chess.seenOf(0, 0, 0, 4, 4), 5);
        chess.addFog(17, 2, 1);
        chess.addFog(10, 2, 1);
        Checks.due("fogs in the pauses on both sides", chess.seenOf(0, 0, 0, 4, 4), 5);
    }

    private static void isHidden() {
        Checks.says("Throws `IllegalArgumentException` if tick is out of range");
        LanternChess chess = new LanternChess();
        Checks.dueArgumentRange("isHidden", 0, 99999, chess::isHidden);
        Checks.says("Returns whether some fog hides it.");
        Checks.due("no fog hides the first tick", chess.isHidden(0), false);
        chess.addFog(7, 1, 1);
        chess.addFog(3, 1, 1);
        Checks.due("the second fog", chess.isHidden(7), true);
        Checks.due("the first fog", chess.isHidden(3), true);
        chess.think(9);
        Checks.due("a tick that is over", chess.isHidden(3), true);
    }

    private static void hiddenTicks() {
        Checks.says("Throws `IllegalArgumentException` if tick or ticks is out of range");
        LanternChess chess = new LanternChess();
        Checks.dueArgumentRange("hiddenTicks, tick", 0, 99999, n -> chess.hiddenTicks(n, 1));
        Checks.dueArgumentRange("hiddenTicks, ticks", 0, 999, n -> chess.hiddenTicks(0, n));
        Checks.says("Returns how many of them some fog hides.");
        chess.addFog(10, 999, 1);
        chess.addFog(500, 999, 1);
        Checks.due("no ticks", chess.hiddenTicks(10, 0), 0);
        Checks.due("one tick", chess.hiddenTicks(10, 1) + " " + chess.hiddenTicks(9, 1), "1 0");
        Checks.due("all of 999 ticks", chess.hiddenTicks(10, 999), 999);
        Checks.due("all but one", chess.hiddenTicks(9, 999) + " " + chess.hiddenTicks(501, 999), "998 998");
        Checks.due("a tick that two fogs hide counts once", chess.hiddenTicks(600, 10), 10);
        Checks.due("the last one of them", chess.hiddenTicks(1498, 2) + " " + chess.hiddenTicks(1499, 2), "1 0");
        Checks.due("ticks beyond 99999", chess.hiddenTicks(99999, 999), 0);
    }

    private static void clearFrom() {
        Checks.says("Throws `IllegalArgumentException` if ticks is out of range");
        LanternChess chess = new LanternChess();
        Checks.dueArgumentRange("clearFrom", 1, 99, chess::clearFrom);
        Checks.says("1 to 99: how many ticks in a row, that one too");
        chess.addFog(99, 1, 1);
        Checks.due("99 ticks ahead of the fog", chess.clearFrom(99), 0);
        chess.addFog(98, 1, 1);
        Checks.due("98 ticks ahead of the fog", chess.clearFrom(98) + " " + chess.clearFrom(99), "0 100");
        chess.addFog(0, 1, 1);
        Checks.due("1 tick", chess.clearFrom(1), 1);
        Checks.due("97 ticks between two fogs", chess.clearFrom(97) + " " + chess.clearFrom(98), "1 100");
        LanternChess gaps = new LanternChess();
        gaps.addFog(0, 19, 3);
        Checks.due("between the hidden ticks", gaps.clearFrom(1) + " " + gaps.clearFrom(2) + " " + gaps.clearFrom(3),
            "1 1 19");
    }

    private static void clearFromNow() {
        Checks.says("Returns the first tick, from now on, with which so many ticks in a row begin that are not "
            + "hidden.");
        LanternChess chess = new LanternChess();
        chess.addFog(10, 5, 1);
        chess.think(8);
        Checks.due("two ticks from now", chess.clearFrom(2) + " " + chess.clearFrom(3), "8 15");
        chess.think(1);
        Checks.due("a tick that is over does not count", chess.clearFrom(1) + " " + chess.clearFrom(2), "9 15");
        chess.think(1);
        Checks.due("now is hidden", chess.clearFrom(1), 15);
        chess.think(5);
        Checks.due("now is clear again", chess.clearFrom(99), 15);
        LanternChess late = Checks.game("game 5 5;clock 9999 9999;fog 9001 999 1;fog 9999 999 1;fog 10 1 1;" + PIECES);
        for (int i = 0; i < 9; i++) {
            late.think(999);
        }
        late.think(10);
        Checks.due("all ticks hidden from now to the last one that can be", late.count(2) + " " + late.clearFrom(1)
            + " " + late.clearFrom(99), "9001 10998 10998");
    }

    private static void fog() {
        Checks.says("Throws `IndexOutOfBoundsException` if there is no such fog");
        LanternChess chess = new LanternChess();
        Checks.dueIndex("the first one of no fogs", () -> chess.fog(0, 0));
        Checks.dueIndex("no fog to be taken away", () -> chess.dropFog(0));
        for (int i = 0; i < 8; i++) {
            chess.addFog(i, 1, 1);
            int last = i;
            Checks.dueIndexRange("fog, " + (i + 1) + " of them", 0, last, n -> chess.fog(n, 0));
        }
        Checks.dueArgumentRange("fog, what", 0, 3, n -> chess.fog(7, n));
        Checks.dueIndex("no fog ahead of no part", () -> chess.fog(8, 4));
    }

    private static void fogHides() {
        Checks.says("0 FROM, 1 LONG, 2 EVERY, 3 how many ticks it hides");
        int[][] want = {{1, 1, 1}, {1, 9, 1}, {9, 9, 1}, {10, 9, 2}, {18, 9, 2}, {19, 9, 3}, {8, 1, 8}, {999, 1, 999},
            {999, 9, 111}, {998, 9, 111}, {2, 2, 1}, {3, 2, 2}};
        for (int[] fog : want) {
            LanternChess chess = new LanternChess();
            chess.addFog(50, fog[0], fog[1]);
            Checks.due("LONG " + fog[0] + ", EVERY " + fog[1], chess.fog(0, 3), fog[2]);
        }
        LanternChess both = new LanternChess();
        both.addFog(50, 4, 1);
        both.addFog(52, 4, 1);
        Checks.due("ticks that another one hides too", both.fog(0, 3) + " " + both.fog(1, 3), "4 4");
    }

    private static void addFog() {
        Checks.says("Throws `IllegalStateException` if there are 8 fogs, or one has this FROM");
        LanternChess chess = new LanternChess();
        chess.addFog(50, 1, 1);
        Checks.dueState("this FROM", () -> chess.addFog(50, 2, 2));
        Checks.dueArgument("this FROM and a wrong LONG", () -> chess.addFog(50, 0, 2));
        Checks.dueArgument("this FROM and a wrong EVERY", () -> chess.addFog(50, 1, 10));
        for (int i = 1; i < 8; i++) {
            chess.addFog(50 + i, 1, 1);
        }
        String before = Checks.state(chess);
        Checks.dueState("a ninth one", () -> chess.addFog(40, 1, 1));
        Checks.dueState("a ninth one with this FROM", () -> chess.addFog(57, 1, 1));
        Checks.dueArgument("a ninth one and a wrong FROM", () -> chess.addFog(10000, 1, 1));
        Checks.due("nothing is changed", Checks.state(chess), before);
        Checks.says("Adds a fog; those with a greater FROM get numbers that are 1 greater.");
        chess.dropFog(3);
        Checks.due("between", chess.addFog(53, 7, 1), 3);
        Checks.due("the ones beside it", chess.fog(2, 0) + " " + chess.fog(3, 1) + " " + chess.fog(4, 0), "52 7 54");
        chess.resign();
        chess.dropFog(0);
        Checks.due("when the game is over", chess.addFog(0, 9, 3), 0);
    }

    private static void dropFog() {
        Checks.says("Takes a fog away; those behind it get numbers that are 1 less.");
        LanternChess chess = new LanternChess();
        for (int i = 0; i < 8; i++) {
            chess.addFog(100 * i, i + 1, i + 1);
        }
        Checks.due("the last one of 8", chess.dropFog(7), 7);
        Checks.due("the first one", chess.dropFog(0), 6);
        Checks.due("the one behind it", chess.fog(0, 0) + " " + chess.fog(0, 1) + " " + chess.fog(0, 2), "100 2 2");
        Checks.due("one between", chess.dropFog(2), 5);
        Checks.due("those beside it", chess.fog(1, 0) + " " + chess.fog(2, 0) + " " + chess.fog(4, 0), "200 400 600");
        Checks.dueIndex("none behind the last one", () -> chess.fog(5, 0));
        Checks.dueIndex("none behind the last one to be taken away", () -> chess.dropFog(5));
        Checks.dueIndex("none ahead of the first one", () -> chess.dropFog(-1));
        Checks.dueIndex("the greatest number", () -> chess.dropFog(Integer.MAX_VALUE));
        Checks.dueIndex("the least number", () -> chess.dropFog(Integer.MIN_VALUE));
        for (int left = 4; left >= 0; left--) {
            Checks.due("the first one of " + (left + 1), chess.dropFog(0), left);
        }
        Checks.due("none is left", chess.count(8) + " " + chess.hiddenTicks(0, 999), "0 0");
    }
}
