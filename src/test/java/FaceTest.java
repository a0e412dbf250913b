import java.io.IOException;
import java.lang.management.ManagementFactory;
import java.lang.reflect.Field;
import java.lang.reflect.Method;
import java.lang.reflect.Modifier;
import java.nio.file.Files;
import java.nio.file.Path;
import java.util.ArrayList;
import java.util.Arrays;
import java.util.List;
import java.util.Set;
import java.util.TreeSet;
import java.util.regex.Matcher;
import java.util.regex.Pattern;

/** The public face of the document, the rules of LANGUAGE.md that can be looked up, and the room of a run. */
public final class FaceTest {
    private static final String SOURCE = "src/main/java/OpticalTelegraph.java";
    private static final String[] METHODS = {
        "int reset(int)", "int setDay(int, int)", "int addFog(int, int, int)", "int addFault(int, int, int)", "int isBlind(int)",
        "int linkCount(int, int)", "int type(char)", "int clearText()", "int addWord(int, int)", "int removeWord()", "int signCount()",
        "int send(int, int, int)", "int cancel(int)", "int setPriority(int, int)", "int message(int, int)", "int copied(int, int)",
        "int sign(int, int, int)", "int reading(int, int, int)", "int step(int, int)", "int run(int)", "int value(int)", "int shown(int)",
        "int task(int, int)", "int forecast(int)", "int effect(int, int, int)", "int leastMinutes(int)"};
    private static final String[] CONSTANTS = {"NO_SUCH_PLACE", "NO_SUCH_MESSAGE", "BAD_VALUE", "NOT_POSSIBLE", "FULL", "NONE"};
    private static final Check check = new Check();

    public static void main(String[] args) throws IOException {
        constants();
        members();
        classesInside();
        words();
        room();
        check.end();
    }

    private static void constants() {
        check.part("constants");
        check.due("NO_SUCH_PLACE", OpticalTelegraph.NO_SUCH_PLACE, -1);
        check.due("NO_SUCH_MESSAGE", OpticalTelegraph.NO_SUCH_MESSAGE, -2);
        check.due("BAD_VALUE", OpticalTelegraph.BAD_VALUE, -3);
        check.due("NOT_POSSIBLE", OpticalTelegraph.NOT_POSSIBLE, -4);
        check.due("FULL", OpticalTelegraph.FULL, -5);
        check.due("NONE", OpticalTelegraph.NONE, -6);
    }

    private static void members() {
        check.part("face");
        Class<?> face = OpticalTelegraph.class;
        if (face.getModifiers() != (Modifier.PUBLIC | Modifier.FINAL)) {
            check.fail("the class is not public and final alone");
        }
        Set<String> methods = new TreeSet<>();
        for (Method m : face.getDeclaredMethods()) {
            if (!Modifier.isPrivate(m.getModifiers()) && !m.isSynthetic()) {
                String parameters = Arrays.toString(m.getParameterTypes());
                methods.add(m.getReturnType() + " " + m.getName() + "(" + parameters.substring(1, parameters.length() - 1) + ")");
                check.due("modifiers of " + m.getName(), m.getModifiers(), Modifier.PUBLIC);
            }
        }
        check.dueText("the methods", methods.toString(), new TreeSet<>(Arrays.asList(METHODS)).toString());
        Set<String> constants = new TreeSet<>();
        for (Field f : face.getDeclaredFields()) {
            if (!Modifier.isPrivate(f.getModifiers())) {
                constants.add(f.getName());
                check.due("modifiers of " + f.getName(), f.getModifiers(), Modifier.PUBLIC | Modifier.STATIC | Modifier.FINAL);
            }
        }
        check.dueText("the constants", constants.toString(), new TreeSet<>(Arrays.asList(CONSTANTS)).toString());
        check.due("constructors", face.getDeclaredConstructors().length, 1);
        check.due("public constructors", face.getConstructors().length, 1);
    }

    private static void classesInside() {
        check.part("classes inside");
        Set<String> names = new TreeSet<>();
        for (Method m : OpticalTelegraph.class.getMethods()) {
            names.add(m.getName());
        }
        Class<?>[] inside = OpticalTelegraph.class.getDeclaredClasses();
        if (inside.length > 12) {
            check.fail("there are " + inside.length + " classes inside");
        }
        List<Class<?>> all = new ArrayList<>(Arrays.asList(inside));
        for (Class<?> c : all) {
            if (!Modifier.isStatic(c.getModifiers())) {
                check.fail(c + " is not static");
            }
            for (Method m : c.getDeclaredMethods()) {
                if (names.contains(m.getName())) {
                    check.fail(m + " bears the name of a public method");
                }
            }
        }
        all.add(OpticalTelegraph.class);
        for (Class<?> c : all) {
            int fields = 0;
            for (Field f : c.getDeclaredFields()) {
                boolean isStatic = Modifier.isStatic(f.getModifiers());
                fields += isStatic ? 0 : 1;
                if (isStatic && !Modifier.isFinal(f.getModifiers())) {
                    check.fail(f + " is static and not final");
                }
            }
            if (fields > 20) {
                check.fail(c + " has " + fields + " fields");
            }
            for (Method m : c.getDeclaredMethods()) {
                if (m.getParameterCount() > 7) {
                    check.fail(m + " takes too many parameters");
                }
            }
        }
    }

    private static void words() throws IOException {
        check.part("words");
        String source = Files.readString(Path.of(SOURCE));
        String code = source.replaceAll("(?s)/\\*.*?\\*/", "").replaceAll("//[^\n]*", "");
        Pattern ruledOut = Pattern.compile("\\b(throw|throws|try|catch|finally|synchronized|assert|import|package|native|volatile|transient"
            + "|hashCode|toString|double|float|\\w+Exact|Random|Thread|Object)\\b|->|::|\"|\\bstatic\\s*\\{|\\bSystem\\.(?!arraycopy)");
        Matcher matcher = ruledOut.matcher(code);
        while (matcher.find()) {
            check.fail("the source has '" + matcher.group() + "'");
        }
        for (int i = 0; i < source.length(); i++) {
            if (source.charAt(i) > 126) {
                check.fail("the source has the character " + (int) source.charAt(i));
            }
        }
    }

    /** All that is kept is made by the constructor; no other call makes an object. */
    private static void room() {
        check.part("room");
        int[] sum = new int[1];
        long[] bytes = new long[2];
        for (int round = 0; round < 2; round++) {
            long start = allocated();
            OpticalTelegraph x = new OpticalTelegraph();
            long made = allocated();
            useAll(x, sum);
            bytes[0] = made - start;
            bytes[1] = allocated() - made;
        }
        if (bytes[0] > 64000) {
            check.fail("the constructor makes " + bytes[0] + " bytes");
        }
        if (bytes[1] > 2000) {
            check.fail("the calls after it make " + bytes[1] + " bytes");
        }
        System.out.println("constructor: " + bytes[0] + " bytes, all calls after it: " + bytes[1]);
    }

    private static long allocated() {
        com.sun.management.ThreadMXBean bean = (com.sun.management.ThreadMXBean) ManagementFactory.getThreadMXBean();
        return bean.getThreadAllocatedBytes(Thread.currentThread().getId());
    }

    private static void useAll(OpticalTelegraph x, int[] sum) {
        for (int round = 0; round < 3; round++) {
            sum[0] += x.reset(8) + x.setDay(100, 99 - round) + x.addFog(0, 3, 5) + x.addFault(3, 4, 5) + x.isBlind(1) + x.linkCount(0, 3);
            sum[0] += x.clearText();
            for (int i = 0; i < 12; i++) {
                sum[0] += x.type((char) ('a' + i));
                sum[0] += x.addWord(30 + i, 30) + x.signCount() + x.send(i % 8, 7 - i % 8, i % 3);
            }
            sum[0] += x.removeWord();
            for (int m = 0; m < 10; m++) {
                sum[0] += x.run(5) + x.setPriority(m, 1) + x.message(m, 6) + x.copied(m, 3) + x.sign(m, 3, 0) + x.reading(m, 3, 0);
                sum[0] += x.step(m, 3) + x.value(3) + x.shown(m) + x.task(m, 0);
                sum[0] += x.forecast(m) + x.effect(m, 3, 2) + x.leastMinutes(m);
            }
            sum[0] += x.cancel(0);
        }
    }
}
