import com.sun.management.ThreadMXBean;
import java.io.IOException;
import java.lang.management.ManagementFactory;
import java.lang.reflect.Constructor;
import java.lang.reflect.Field;
import java.lang.reflect.Method;
import java.lang.reflect.Modifier;
import java.nio.file.Files;
import java.nio.file.Path;
import java.util.Arrays;
import java.util.List;
import java.util.Set;
import java.util.TreeSet;
import java.util.regex.Matcher;
import java.util.regex.Pattern;

/** What of LANGUAGE.md can be seen from outside or in the text, the document's face, and that calls make nothing new. */
public final class LanguageTest {
    private static final String[] FACE = {"bag I", "thing IIIII", "pack II", "give I", "of II", "strength II", "force III",
        "told II", "set III", "type I", "way", "shop", "sort I", "count I", "step", "undo", "again", "seed I", "holds I",
        "odds I", "packing I", "doubled", "leave I", "rolls I", "run I", "hands III", "torn III", "image", "restore",
        "sagged IIIIII", "film IIII", "sheet III", "drop I", "item IIIJ", "copy IIIII"};
    private static final List<String> CONSTANTS = List.of("BAD", "NOT", "FULL", "NONE", "NULL", "CAST", "INDEX", "SIZE");
    private static final int[] VALUES = {-1, -2, -3, -4, -11, -12, -13, -14};

    private static final Set<String> LIBRARY =
        Set.of("Math.max", "Math.min", "Integer.bitCount", "Arrays.fill", "System.arraycopy");

    public static void main(String[] args) throws ReflectiveOperationException, IOException {
        face();
        constants();
        insides();
        text(Files.readString(Path.of("src/main/java/TornBag.java")));
        callsMakeNothing();
        Check.end("LanguageTest");
    }

    private static String shape(Method m) {
        StringBuilder shape = new StringBuilder(m.getName());
        for (Class<?> p : m.getParameterTypes()) shape.append(shape.indexOf(" ") < 0 ? " " : "").append(p.descriptorString());
        return shape.toString();
    }

    private static void face() {
        Set<String> found = new TreeSet<>();
        for (Method m : TornBag.class.getDeclaredMethods()) {
            if (Modifier.isPrivate(m.getModifiers())) continue;
            Check.holds(m + " is public, of int", Modifier.isPublic(m.getModifiers()) && m.getReturnType() == int.class);
            found.add(shape(m));
        }
        Set<String> due = new TreeSet<>(Arrays.asList(FACE));
        Check.holds("the face " + found + " is " + due, found.equals(due));
        Check.holds("final", Modifier.isFinal(TornBag.class.getModifiers()));
        Constructor<?>[] made = TornBag.class.getDeclaredConstructors();
        Check.holds("one constructor", made.length == 1 && Modifier.isPublic(made[0].getModifiers())
            && made[0].getParameterCount() == 0);
    }

    private static void constants() throws ReflectiveOperationException {
        int open = 0;
        for (Field f : TornBag.class.getDeclaredFields()) {
            if (Modifier.isPrivate(f.getModifiers())) continue;
            open++;
            Check.holds(f + " is a constant of the face", CONSTANTS.contains(f.getName()));
        }
        Check.due("constants", open, CONSTANTS.size());
        for (int k = 0; k < VALUES.length; k++) {
            Check.due(CONSTANTS.get(k), TornBag.class.getField(CONSTANTS.get(k)).getInt(null), VALUES[k]);
        }
    }

    private static void insides() {
        Set<String> names = new TreeSet<>();
        for (String call : FACE) names.add(call.split(" ")[0]);
        Class<?>[] inside = TornBag.class.getDeclaredClasses();
        Check.holds("some twelve classes at most", inside.length + 1 <= 12);
        for (Method m : TornBag.class.getDeclaredMethods()) {
            if (Modifier.isPrivate(m.getModifiers())) Check.holds(m + " has a name of its own", !names.contains(m.getName()));
        }
        for (Class<?> c : inside) {
            Check.holds(c + " is private and static", Modifier.isPrivate(c.getModifiers()) && Modifier.isStatic(c.getModifiers()));
            Check.holds(c + " has some twenty fields at most", c.getDeclaredFields().length <= 20);
            for (Method m : c.getDeclaredMethods()) {
                Check.holds(m + " has a name of its own", !names.contains(m.getName()));
                Check.holds(m + " takes seven at most", m.getParameterCount() <= 7);
            }
        }
    }

    private static void text(String source) {
        for (String word : List.of("try", "catch", "finally", "synchronized", "assert", "throw", "double", "float", "new int\\[\\]\\[",
            "Exact", "->", "::", "System\\.out", "package ", "volatile", "static \\{", "hashCode", "toString")) {
            String plain = Character.isLetter(word.charAt(0)) ? "\\b" + word : word;
            Matcher m = Pattern.compile(plain).matcher(source.replaceAll("public int doubled", "").replaceAll("doubled", ""));
            Check.holds("'" + word + "' is not used", !m.find());
        }
        Matcher imports = Pattern.compile("(?m)^import (.*);").matcher(source);
        while (imports.find()) Check.holds("import " + imports.group(1), imports.group(1).equals("java.util.Arrays"));
        library(source);
        for (char sign : source.toCharArray()) if (sign > 126) Check.holds("sign " + (int) sign, false);
        int length = 0;
        for (String line : source.split("\n")) {
            length = line.isBlank() ? 0 : length + 1;
            Check.holds("a block of some sixty lines at most: " + line, length <= 60);
        }
    }

    /** A name of the library is followed by a dot; what is called behind it must be one of those that rule 4 lists. */
    private static void library(String source) {
        Matcher calls = Pattern.compile("\\b([A-Z][a-z]\\w*)\\.(\\w+)\\(").matcher(source);
        while (calls.find()) {
            String call = calls.group(1) + "." + calls.group(2);
            Check.holds(call + " is in the list", LIBRARY.contains(call));
        }
        Matcher types = Pattern.compile("\\b(String|StringBuilder|List|ArrayList|Object|Iterator|Comparable|Character)\\b").matcher(source);
        Check.holds("no type of the library", !types.find());
    }

    /** The dearest calls, often: a row that a call made would show as many bytes. */
    private static void callsMakeNothing() {
        TornBag x = Check.walk("bubud.bsbdddu", "P,T,D;20w3e1@0,15r@0,9w5r@1,25e4r@1,12@2,3r@2");
        for (int round = 0; round < 3; round++) allCalls(x);
        ThreadMXBean threads = (ThreadMXBean) ManagementFactory.getThreadMXBean();
        long ahead = threads.getCurrentThreadAllocatedBytes();
        long idle = threads.getCurrentThreadAllocatedBytes() - ahead;
        ahead = threads.getCurrentThreadAllocatedBytes();
        for (int round = 0; round < 8; round++) allCalls(x);
        long made = threads.getCurrentThreadAllocatedBytes() - ahead - idle;
        Check.holds("calls make nothing, but made " + made + " bytes", made < 4096);
    }

    private static void allCalls(TornBag x) {
        for (int t = -1; t < 6; t++) x.packing(t);
        x.holds(7);
        x.odds(0);
        x.doubled();
        x.leave(0);
        x.torn(0, 3, 0);
        x.hands(0, 1, 0);
        x.image();
        x.sheet(0, 3, 24);
        x.film(7, 0, 3, 0);
        x.sagged(0, 0, 3, 0, 8, 0);
        for (int s = 0; s < 6; s++) x.step();
        x.run(-1);
        x.run(2);
        x.undo();
        x.restore();
        x.type('.');
        x.way();
        x.type('P');
        x.shop();
        x.restore();
    }
}
