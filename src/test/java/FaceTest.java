import java.io.IOException;
import java.lang.reflect.Field;
import java.lang.reflect.Method;
import java.lang.reflect.Modifier;
import java.nio.file.Files;
import java.nio.file.Path;
import java.util.Arrays;
import java.util.List;
import java.util.Set;
import java.util.TreeSet;
import java.util.regex.Matcher;
import java.util.regex.Pattern;

/** The face of the document and those rules of LANGUAGE.md that a machine sees easily. */
public final class FaceTest {
    private static final Set<String> FACE = new TreeSet<>(List.of(
        "appendInput:int5", "truncateInput:boolean1", "loadGame:int0", "errorCode:int0", "errorOffset:int0",
        "count:int1", "clock:int1", "piece:int3", "isMove:boolean6", "moves:int2", "move:int4", "ranked:int2",
        "attackers:int4", "isInCheck:boolean2", "material:int2", "sum:int1", "differ:int1", "fewestMoves:int5",
        "isHidden:boolean1", "hiddenTicks:int2", "clearFrom:int1", "fog:int2", "group:int5", "seenOf:int5",
        "messageTicks:int4", "readsAs:int4", "ifPlayed:int5", "delay:int5", "sent:int2", "made:int2",
        "meanTries:double0", "hiddenShare:float0", "play:int4", "think:int1", "resign:int0", "settle:int1",
        "wind:int2", "addFog:int3", "dropFog:int1", "set:int2", "undo:int0", "printRow:int2", "printMessage:int4",
        "printMoves:int0", "outputByte:int1", "saveState:int0", "restoreState:int0"));

    private FaceTest() {
    }

    public static void main(String[] args) throws IOException {
        face();
        insides(LanternChess.class);
        for (Class<?> inside : LanternChess.class.getDeclaredClasses()) {
            Checks.due(inside + " is static", Modifier.isStatic(inside.getModifiers()), true);
            Checks.due(inside + " is not public", Modifier.isPublic(inside.getModifiers()), false);
            insides(inside);
        }
        int classes = 1 + LanternChess.class.getDeclaredClasses().length;
        Checks.due("at most 12 classes", classes <= 12, true);
        source(Files.readString(Path.of("src/main/java/LanternChess.java")));
        Checks.end("FaceTest");
    }

    private static void face() {
        Set<String> found = new TreeSet<>();
        for (Method m : LanternChess.class.getDeclaredMethods()) {
            if (Modifier.isPublic(m.getModifiers())) {
                found.add(m.getName() + ":" + m.getReturnType() + m.getParameterCount());
            } else {
                Checks.due(m + " is private", Modifier.isPrivate(m.getModifiers()), true);
            }
        }
        Checks.due("the public methods", found, FACE);
        for (Field f : LanternChess.class.getDeclaredFields()) {
            boolean isConstant = f.getName().equals("NONE") || f.getName().equals("CANNOT");
            Checks.due(f + " is of the face", Modifier.isPublic(f.getModifiers()), isConstant);
            Checks.due(f + " is private", Modifier.isPrivate(f.getModifiers()), !isConstant);
        }
        Checks.due("one constructor", LanternChess.class.getConstructors().length, 1);
        Checks.due("final", Modifier.isFinal(LanternChess.class.getModifiers()), true);
    }

    private static void insides(Class<?> inside) {
        int fields = 0;
        for (Field f : inside.getDeclaredFields()) {
            boolean isStatic = Modifier.isStatic(f.getModifiers());
            fields += isStatic ? 0 : 1;
            Checks.due(f + ", if static, is final", !isStatic || Modifier.isFinal(f.getModifiers()), true);
        }
        Checks.due(inside + " has at most 20 fields", fields <= 20, true);
        for (Method m : inside.getDeclaredMethods()) {
            Checks.due(m + " has at most 7 parameters", m.getParameterCount() <= 7, true);
            boolean isOfFace = FACE.stream().anyMatch(name -> name.startsWith(m.getName() + ":"));
            Checks.due(m + " has a name of its own", isOfFace, inside == LanternChess.class
                && Modifier.isPublic(m.getModifiers()));
        }
    }

    private static void source(String text) {
        String code = text.replaceAll("(?s)/\\*.*?\\*/", "").replaceAll("//[^\n]*", "");
        for (String word : List.of("catch", "try", "finally", "synchronized", "assert", "instanceof", "->", "::",
            "System.out", "System.nanoTime", "Random", "Exact", "record", "native", "Thread")) {
            Checks.due("the source has no " + word, Pattern.compile("(?<![A-Za-z])" + Pattern.quote(word)
                + "(?![A-Za-z])").matcher(code).find(), false);
        }
        Matcher imports = Pattern.compile("import ([A-Za-z.]+);").matcher(code);
        while (imports.find()) {
            Checks.due("import " + imports.group(1), Set.of("java.util.Arrays", "java.util.NoSuchElementException")
                .contains(imports.group(1)), true);
        }
        long longest = Arrays.stream(code.split("\n")).mapToInt(String::length).max().orElse(0);
        Checks.due("no line of over 120 signs", longest <= 120, true);
        Matcher signs = Pattern.compile("[^\\x01-\\x7f]").matcher(text);
        Checks.due("signs 1 to 127 alone", signs.find(), false);
    }
}
