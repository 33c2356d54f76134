import java.lang.reflect.Constructor;
import java.lang.reflect.Field;
import java.lang.reflect.Method;
import java.lang.reflect.Modifier;
import java.nio.file.Files;
import java.nio.file.Path;
import java.util.ArrayList;
import java.util.Arrays;
import java.util.List;
import java.util.Set;
import java.util.TreeSet;

/** The face is the document's and no more, and the source keeps off what LANGUAGE.md rules out. */
public final class FaceTest {
    private static final String[] FACE = {
        "int feed(int,int,int,int,int) IllegalStateException",
        "int trim(int) IllegalArgumentException",
        "int teach()",
        "int errorAt()",
        "int count(int) IndexOutOfBoundsException",
        "int height(int,int)",
        "int ink(int,int)",
        "int patch(int,int)",
        "int whence(int,int)",
        "int share(int) IndexOutOfBoundsException",
        "int octave(int,int) IndexOutOfBoundsException",
        "int gradient(int,int,int) IndexOutOfBoundsException",
        "int value(int,int,int) IndexOutOfBoundsException",
        "int comb(int,int) IndexOutOfBoundsException",
        "int moves(int,int) IndexOutOfBoundsException",
        "int setPull(int,int) IndexOutOfBoundsException IllegalArgumentException",
        "int setSeed(int,int) IndexOutOfBoundsException IllegalArgumentException",
        "int drift(int,int) IllegalArgumentException",
        "int dip(int) IllegalArgumentException",
        "int foresee(int,int) IllegalArgumentException IndexOutOfBoundsException",
        "int until(int,int,int) IndexOutOfBoundsException",
        "int advise(int) IndexOutOfBoundsException",
        "double mean()",
        "long digest()"};

    private static final String[] RULED_OUT = {"import ", "->", "::", "catch", "finally", "try", "synchronized",
        "assert", "float", "Exact", "System.out", "static {", "getMessage", "instanceof", "Object", "package "};

    private FaceTest() {
    }

    public static void main(String[] args) throws Exception {
        face();
        nested();
        source();
        nothingIsMadeByCalls();
        Checks.close("FaceTest");
    }

    private static String sign(Method method) {
        StringBuilder text = new StringBuilder(method.getReturnType().getName() + " " + method.getName() + "(");
        for (int k = 0; k < method.getParameterCount(); k++) {
            text.append(k > 0 ? "," : "").append(method.getParameterTypes()[k].getName());
        }
        text.append(")");
        for (Class<?> thrown : method.getExceptionTypes()) {
            text.append(" ").append(thrown.getSimpleName());
        }
        return text.toString();
    }

    private static void face() {
        Class<?> c = MarbledPaper.class;
        Checks.due("public and final", true,
            () -> Modifier.isPublic(c.getModifiers()) && Modifier.isFinal(c.getModifiers()) && c.getPackageName().isEmpty());
        Set<String> open = new TreeSet<>();
        Set<String> names = new TreeSet<>();
        List<String> hidden = new ArrayList<>();
        for (Method method : c.getDeclaredMethods()) {
            if (Modifier.isPrivate(method.getModifiers())) {
                hidden.add(method.getName());
            } else {
                open.add((Modifier.isPublic(method.getModifiers()) ? "" : "not public ") + sign(method));
                names.add(method.getName());
            }
        }
        Checks.due("the methods of the face", new TreeSet<>(Arrays.asList(FACE)).toString(), open::toString);
        Checks.due("private methods have other names", true, () -> hidden.stream().noneMatch(names::contains));
        Constructor<?>[] made = c.getDeclaredConstructors();
        Checks.due("one public constructor", true,
            () -> made.length == 1 && Modifier.isPublic(made[0].getModifiers()) && made[0].getParameterCount() == 0);
        for (Field field : c.getDeclaredFields()) {
            Checks.due("private " + field.getName(), true, () -> Modifier.isPrivate(field.getModifiers()));
        }
    }

    private static void nested() {
        Class<?>[] all = MarbledPaper.class.getDeclaredClasses();
        Checks.due("no more than twelve classes", true, () -> all.length + 1 <= 12);
        for (Class<?> inside : all) {
            Checks.due("static and not public: " + inside.getName(), true,
                () -> Modifier.isStatic(inside.getModifiers()) && !Modifier.isPublic(inside.getModifiers()));
            for (Method method : inside.getDeclaredMethods()) {
                Checks.due("no name of the face: " + method, true,
                    () -> Arrays.stream(FACE).noneMatch(line -> line.contains(" " + method.getName() + "(")));
                Checks.due("no more than seven parameters: " + method, true, () -> method.getParameterCount() <= 7);
            }
            long fields = Arrays.stream(inside.getDeclaredFields())
                .filter(field -> !Modifier.isStatic(field.getModifiers())).count();
            Checks.due("no more than twenty fields: " + inside.getName(), true, () -> fields <= 20);
            for (Field field : inside.getDeclaredFields()) {
                Checks.due("static fields are final: " + field, true,
                    () -> !Modifier.isStatic(field.getModifiers()) || Modifier.isFinal(field.getModifiers()));
            }
        }
    }

    private static void source() throws Exception {
        int block = 0;
        int longest = 0;
        boolean comment = false;
        StringBuilder code = new StringBuilder();
        for (String line : Files.readAllLines(Path.of("src/main/java/MarbledPaper.java"))) {
            String text = line.strip();
            comment |= text.startsWith("/**");
            if (!comment && !text.startsWith("//")) {
                code.append(line).append('\n');
            }
            comment &= !text.endsWith("*/");
            block = text.isEmpty() ? 0 : block + 1;
            longest = Math.max(longest, text.startsWith("static final int") ? 0 : block);
        }
        for (String word : RULED_OUT) {
            Checks.due("the source is without " + word, -1, () -> code.toString().replace("  ", "").indexOf(word));
        }
        int lines = longest;
        Checks.due("no run of more than sixty lines", true, () -> lines <= 60);
    }

    /** Calls use the rows that the constructor made: a run has only so much room. */
    private static void nothingIsMadeByCalls() {
        var threads = (com.sun.management.ThreadMXBean) java.lang.management.ManagementFactory.getThreadMXBean();
        MarbledPaper x = new MarbledPaper();
        String list = "paper 12 by 9; octave o across 3 down 2 strength 9 seed 4; comb c down teeth 2 pull 5; "
            + "ink a from 480; ink b from 530; drift across by share a when edge b; seed o to seed o + 1 when dip < 9;";
        long made = 0;
        for (int round = 0; round < 3; round++) {
            Checks.write(x, list);
            long before = threads.getThreadAllocatedBytes(Thread.currentThread().getId());
            x.teach();
            x.dip(3);
            x.foresee(20, 7);
            x.until(1, 1, 2);
            x.advise(0);
            x.mean();
            x.digest();
            x.patch(3, 3);
            made = threads.getThreadAllocatedBytes(Thread.currentThread().getId()) - before;
        }
        long bytes = made;
        Checks.due("no more than a few bytes are made", true, () -> bytes < 2000);
    }
}
