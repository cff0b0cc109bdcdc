/** Promises 20 to 23, 39 and 40: what fogs hide, and their numbers. */
public final class FogTest {
    private FogTest() {
    }

    public static void main(String[] args) {
        isHidden();
        hiddenTicks();
        clearFrom();
        fogNumbers();
        addFog();
        dropFog();
        wrongArguments();
        Checks.end("FogTest");
    }

    private static void isHidden() {
        LanternChess chess = new LanternChess();
        Checks.due("no fog", chess.isHidden(0), false);
        chess.addFog(10, 7, 3);
        boolean[] want = {false, true, false, false, true, false, false, true, false, false, false};
        for (int i = 0; i < want.length; i++) {
            Checks.due("isHidden(" + (9 + i) + ")", chess.isHidden(9 + i), want[i]);
        }
        chess.addFog(12, 2, 1);
        Checks.due("isHidden(12) by the second fog", chess.isHidden(12), true);
        Checks.due("isHidden(13) by both fogs", chess.isHidden(13), true);
        Checks.due("isHidden(14)", chess.isHidden(14), false);
        Checks.due("isHidden(99999)", chess.isHidden(99999), false);
        chess.addFog(9999, 999, 1);
        Checks.due("isHidden(9998)", chess.isHidden(9998), false);
        Checks.due("isHidden(10997)", chess.isHidden(10997), true);
        Checks.due("isHidden(10998)", chess.isHidden(10998), false);
        chess.addFog(0, 1, 1);
        Checks.due("isHidden(0)", chess.isHidden(0), true);
    }

    private static void hiddenTicks() {
        LanternChess chess = new LanternChess();
        chess.addFog(10, 7, 3);
        chess.addFog(12, 2, 1);
        Checks.due("hiddenTicks(0, 999)", chess.hiddenTicks(0, 999), 4);
        Checks.due("hiddenTicks(10, 0)", chess.hiddenTicks(10, 0), 0);
        Checks.due("hiddenTicks(10, 1)", chess.hiddenTicks(10, 1), 1);
        Checks.due("hiddenTicks(11, 2)", chess.hiddenTicks(11, 2), 1);
        Checks.due("hiddenTicks(11, 6)", chess.hiddenTicks(11, 6), 3);
        Checks.due("hiddenTicks(17, 900)", chess.hiddenTicks(17, 900), 0);
        Checks.due("hiddenTicks(99999, 999)", chess.hiddenTicks(99999, 999), 0);
    }

    private static void clearFrom() {
        LanternChess chess = new LanternChess();
        Checks.due("clearFrom(99) without fogs", chess.clearFrom(99), 0);
        chess.addFog(10, 7, 3);
        Checks.due("clearFrom(10)", chess.clearFrom(10), 0);
        Checks.due("clearFrom(11)", chess.clearFrom(11), 17);
        chess.addFog(0, 1, 1);
        Checks.due("clearFrom(9)", chess.clearFrom(9), 1);
        Checks.due("clearFrom(10) again", chess.clearFrom(10), 17);
        chess.think(11);
        Checks.due("clearFrom(1) at 11", chess.clearFrom(1), 11);
        Checks.due("clearFrom(2) at 11", chess.clearFrom(2), 11);
        Checks.due("clearFrom(3) at 11", chess.clearFrom(3), 17);
        LanternChess late = Checks.game("game 5 5;clock 9999 9999;white king 2 0;white rook 0 0;black king 2 4;"
            + "fog 9000 999 1;fog 9999 999 1;");
        for (int i = 0; i < 9; i++) {
            late.think(999);
        }
        Checks.due("clearFrom(99) at 8991", late.clearFrom(9), 8991);
        Checks.due("clearFrom(99) behind all fogs", late.clearFrom(99), 10998);
    }

    private static void fogNumbers() {
        LanternChess chess = new LanternChess();
        chess.addFog(50, 7, 3);
        chess.addFog(7, 9, 9);
        chess.addFog(60, 10, 9);
        chess.addFog(8, 999, 1);
        int[][] want = {{7, 9, 9, 1}, {8, 999, 1, 999}, {50, 7, 3, 3}, {60, 10, 9, 2}};
        for (int i = 0; i < want.length; i++) {
            for (int what = 0; what < 4; what++) {
                Checks.due("fog(" + i + ", " + what + ")", chess.fog(i, what), want[i][what]);
            }
        }
    }

    private static void addFog() {
        LanternChess chess = new LanternChess();
        Checks.due("addFog, the first", chess.addFog(100, 1, 1), 0);
        Checks.due("addFog ahead of it", chess.addFog(50, 1, 1), 0);
        Checks.due("addFog between", chess.addFog(75, 1, 1), 1);
        Checks.due("addFog behind", chess.addFog(9999, 999, 9), 3);
        Checks.dueState("addFog with the same FROM", () -> chess.addFog(75, 2, 2));
        for (int i = 0; i < 4; i++) {
            chess.addFog(i, 1, 1);
        }
        String before = Checks.state(chess);
        Checks.dueState("a ninth fog", () -> chess.addFog(500, 1, 1));
        Checks.dueArgument("a ninth fog with a wrong argument", () -> chess.addFog(500, 0, 1));
        Checks.due("a refused fog changes nothing", Checks.state(chess), before);
        Checks.due("undo takes the last fog away", chess.undo() + " " + chess.fog(3, 0), "7 50");
    }

    private static void dropFog() {
        LanternChess chess = new LanternChess();
        chess.addFog(10, 1, 2);
        chess.addFog(20, 3, 4);
        chess.addFog(30, 5, 6);
        Checks.due("dropFog(1)", chess.dropFog(1), 2);
        Checks.due("the fog behind it moves up", chess.fog(1, 0) + "/" + chess.fog(1, 1) + "/" + chess.fog(1, 2),
            "30/5/6");
        Checks.due("what it hid is clear", chess.isHidden(20), false);
        Checks.dueIndex("fog(2, 0)", () -> chess.fog(2, 0));
        Checks.dueIndex("dropFog(2)", () -> chess.dropFog(2));
        Checks.dueIndex("dropFog(-1)", () -> chess.dropFog(-1));
        Checks.due("dropFog(0)", chess.dropFog(0), 1);
        Checks.due("dropFog(0) of the last one", chess.dropFog(0), 0);
        Checks.due("undo brings it back", chess.undo() + " " + chess.fog(0, 0), "5 30");
    }

    private static void wrongArguments() {
        LanternChess chess = new LanternChess();
        chess.addFog(5, 5, 5);
        String before = Checks.state(chess);
        Checks.dueArgument("isHidden(-1)", () -> chess.isHidden(-1));
        Checks.dueArgument("isHidden(100000)", () -> chess.isHidden(100000));
        Checks.dueArgument("hiddenTicks(-1, 0)", () -> chess.hiddenTicks(-1, 0));
        Checks.dueArgument("hiddenTicks(100000, 0)", () -> chess.hiddenTicks(100000, 0));
        Checks.dueArgument("hiddenTicks(0, -1)", () -> chess.hiddenTicks(0, -1));
        Checks.dueArgument("hiddenTicks(0, 1000)", () -> chess.hiddenTicks(0, 1000));
        Checks.dueArgument("clearFrom(0)", () -> chess.clearFrom(0));
        Checks.dueArgument("clearFrom(100)", () -> chess.clearFrom(100));
        Checks.dueIndex("fog(1, 9)", () -> chess.fog(1, 9));
        Checks.dueIndex("fog(-1, 0)", () -> chess.fog(-1, 0));
        Checks.dueArgument("fog(0, 4)", () -> chess.fog(0, 4));
        Checks.dueArgument("fog(0, -1)", () -> chess.fog(0, -1));
        Checks.dueArgument("addFog(-1, 1, 1)", () -> chess.addFog(-1, 1, 1));
        Checks.dueArgument("addFog(10000, 1, 1)", () -> chess.addFog(10000, 1, 1));
        Checks.dueArgument("addFog(5, 0, 1)", () -> chess.addFog(5, 0, 1));
        Checks.dueArgument("addFog(0, 1000, 1)", () -> chess.addFog(0, 1000, 1));
        Checks.dueArgument("addFog(0, 1, 0)", () -> chess.addFog(0, 1, 0));
        Checks.dueArgument("addFog(0, 1, 10)", () -> chess.addFog(0, 1, 10));
        Checks.due("calls that throw change nothing", Checks.state(chess), before);
    }
}
