import java.io.IOException;
import java.lang.management.ManagementFactory;
import java.lang.reflect.Constructor;
import java.lang.reflect.Field;
import java.lang.reflect.Method;
import java.lang.reflect.Modifier;
import java.nio.file.Files;
import java.nio.file.Path;
import java.util.Arrays;
import java.util.HashSet;
import java.util.Set;
import java.util.TreeSet;
import java.util.regex.Matcher;
import java.util.regex.Pattern;

/** The face of the class is the document's, and the source keeps to the rules that can be seen from outside. */
public final class LanguageTest {
    private static final String[] FACE = {
        "int write(int, long)", "int wipe()", "int fault()", "int word(int)", "int sign(int, int)",
        "long figure(int)", "int set(int, int, boolean)", "int size(int)", "int parts(int)", "int holes(int)",
        "int edges(int, boolean)", "int corners(int, int)", "int convex(int)", "int turn(int, int)",
        "int shift(int, int, int)", "long form(int)", "int like(int, int)", "int itself(int)",
        "int both(int, int, int, int)", "int ahead(int, int, int)", "int cut(int, int, int)", "int halves(int)",
        "int split(int, int, int, int)", "int part(int, int, int)", "int lay(int, boolean)", "int lift()",
        "long piece(int)", "int places(int, int)", "long place(int, int)", "int ways(int)", "long first(int, int)",
        "int idle(int)", "int grown(int)", "int forms(int)", "int grow(int, int)", "int keep(int)",
        "int again(int)", "int count(int)",
    };
    private static final String[] BARRED = {
        "throw", "throws", "try", "catch", "finally", "synchronized", "assert", "import", "package", "protected",
        "volatile", "transient", "native", "System", "Object", "Random", "Thread", "var", "values", "hashCode",
        "toString", "Long\\.MIN_VALUE", "Long\\.MAX_VALUE", "Integer\\.MIN_VALUE", "Integer\\.MAX_VALUE", "\\w+Exact",
    };
    private static int wrong = 0;

    public static void main(String[] args) throws IOException {
        face();
        constants();
        nested();
        room();
        source(Files.readString(Path.of("src/main/java/HalfAndHalfAgain.java")));
        System.out.println(wrong == 0 ? "the rules are kept" : wrong + " rules are broken");
        if (wrong != 0) System.exit(1);
    }

    private static void check(boolean good, String what) {
        if (!good) {
            wrong++;
            System.out.println(what);
        }
    }

    private static void face() {
        Set<String> found = new TreeSet<>();
        for (Method method : HalfAndHalfAgain.class.getDeclaredMethods()) {
            if (Modifier.isPrivate(method.getModifiers()) || method.isSynthetic()) continue;
            String parameters = String.join(", ",
                    Arrays.stream(method.getParameterTypes()).map(Class::getName).toArray(String[]::new));
            found.add(method.getReturnType().getName() + " " + method.getName() + "(" + parameters + ")");
            check(method.getModifiers() == Modifier.PUBLIC, "not just public: " + method);
        }
        check(found.equals(new TreeSet<>(Arrays.asList(FACE))), "the face is " + found);
        Constructor<?>[] constructors = HalfAndHalfAgain.class.getDeclaredConstructors();
        check(constructors.length == 1 && constructors[0].getParameterCount() == 0
                && Modifier.isPublic(constructors[0].getModifiers()), "the constructor");
        check(Modifier.isFinal(HalfAndHalfAgain.class.getModifiers()), "the class is not final");
    }

    private static void constants() {
        Set<String> open = new TreeSet<>();
        for (Field field : HalfAndHalfAgain.class.getDeclaredFields()) {
            if (!Modifier.isPrivate(field.getModifiers())) open.add(field.getName());
        }
        check(open.equals(new TreeSet<>(Arrays.asList("UNKNOWN", "OUTSIDE", "STATE", "FULL", "NONE"))), "fields " + open);
    }

    private static void nested() {
        Set<String> names = new HashSet<>();
        for (String call : FACE) names.add(call.replaceAll("^\\w+ (\\w+)\\(.*", "$1"));
        Class<?>[] classes = HalfAndHalfAgain.class.getDeclaredClasses();
        check(classes.length <= 11, "too many classes");
        for (Class<?> inside : classes) {
            check(Modifier.isStatic(inside.getModifiers()), inside + " is not static");
            for (Field field : inside.getDeclaredFields()) {
                boolean still = !Modifier.isStatic(field.getModifiers()) || Modifier.isFinal(field.getModifiers());
                check(still, field + " is static and not final");
            }
            for (Method method : inside.getDeclaredMethods()) {
                check(!names.contains(method.getName()), method + " bears the name of a public one");
                check(method.getParameterCount() <= 7, method + " has too many parameters");
            }
        }
    }

    /** All calls of a run live in one room: once both slots are used, no call makes an object. */
    private static void room() {
        com.sun.management.ThreadMXBean bean = (com.sun.management.ThreadMXBean) ManagementFactory.getThreadMXBean();
        if (!bean.isThreadAllocatedMemorySupported()) return;
        long least = Long.MAX_VALUE;
        // What the machine makes for itself, as it gets to know the code, comes in the first rounds alone.
        for (int round = 0; round < 5; round++) {
            HalfAndHalfAgain x = new HalfAndHalfAgain();
            x.keep(0);
            x.keep(1);
            long before = bean.getCurrentThreadAllocatedBytes();
            for (int i = 0; i < 10; i++) everyCall(x);
            least = Math.min(least, bean.getCurrentThreadAllocatedBytes() - before);
        }
        check(least < 160, "ten times every call make " + least + " bytes");
    }

    private static void everyCall(HalfAndHalfAgain x) {
        x.wipe();
        x.write(8, 0x6630303066666666L);
        x.write(8, 0x6666663030663036L);
        x.fault();
        x.word(0);
        x.word(1);
        x.sign(0, 3);
        x.figure(0);
        x.set(0, 63, true);
        x.size(0);
        x.parts(0);
        x.holes(0);
        x.edges(0, true);
        x.corners(0, 0);
        x.convex(0);
        x.turn(0, 7);
        x.shift(1, 1, 0);
        x.form(0);
        x.like(0, 1);
        x.itself(0);
        x.both(2, 0, 0, 1);
        x.ahead(0, 2, 0);
        x.cut(0, 3, 4);
        x.halves(0);
        x.split(2, 0, 2, 3);
        x.part(4, 1, 0);
        x.lay(0, true);
        x.piece(0);
        x.places(0, 0);
        x.place(0, 0);
        x.ways(0);
        x.first(0, 0);
        x.idle(0);
        x.lift();
        x.grown(0);
        x.forms(0);
        x.grow(0, 0);
        x.keep(0);
        x.again(1);
        x.count(3);
    }

    private static void source(String text) {
        String code = text.replaceAll("(?s)/\\*.*?\\*/", "").replaceAll("//[^\n]*", "");
        for (String word : BARRED) {
            Matcher matcher = Pattern.compile("\\b" + word + "\\b").matcher(code);
            check(!matcher.find(), "the source has " + word);
        }
        check(!code.contains("->") && !code.contains("::"), "the source has a lambda or a method reference");
        check(!Pattern.compile("static\\s*\\{").matcher(code).find(), "the source has a static block");
        check(text.chars().allMatch(sign -> sign < 128), "the source has signs beyond 127");
        methodLengths(text.split("\n"));
    }

    private static void methodLengths(String[] lines) {
        for (int i = 0; i < lines.length; i++) {
            if (!lines[i].matches("(?: {4}| {8})(?:public|private|static|int|long|boolean|void) .*\\) \\{")) continue;
            String end = lines[i].replaceAll("\\S.*", "") + "}";
            int length = 1;
            while (i + length < lines.length && !lines[i + length].equals(end)) length++;
            check(length <= 60, "too long: " + lines[i].trim());
        }
    }
}
