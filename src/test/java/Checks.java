import java.nio.charset.StandardCharsets;
import java.util.Arrays;

/** Counts answers that are not the ones due, and tells them. */
final class Checks {
    /** A call that may throw. */
    interface Call {
        Object make();
    }

    private static int checks;
    private static int wrong;

    private Checks() {
    }

    static void due(String what, Object want, Call call) {
        checks++;
        Object got = answer(call);
        if (!want.equals(got)) {
            wrong++;
            System.out.println(what + ": answered " + got + ", due is " + want);
        }
    }

    /** The answer, or throws.Name of what the call throws. */
    static Object answer(Call call) {
        try {
            return call.make();
        } catch (RuntimeException | StackOverflowError e) {
            return "throws." + e.getClass().getSimpleName();
        }
    }

    static void thrown(String what, Class<? extends RuntimeException> kind, Call call) {
        due(what, "throws." + kind.getSimpleName(), call);
    }

    static void close(String name) {
        System.out.println(name + ": " + checks + " checks, " + wrong + " wrong");
        if (wrong > 0) {
            System.exit(1);
        }
    }

    /** The tape of the paper becomes this text, whose signs are bytes. */
    static void write(MarbledPaper paper, String text) {
        paper.trim(0);
        byte[] bytes = text.getBytes(StandardCharsets.ISO_8859_1);
        byte[] whole = Arrays.copyOf(bytes, (bytes.length + 19) / 20 * 20);
        for (int k = 0; k < whole.length; k += 20) {
            paper.feed(four(whole, k), four(whole, k + 4), four(whole, k + 8), four(whole, k + 12), four(whole, k + 16));
        }
        paper.trim(bytes.length);
    }

    static int four(byte[] bytes, int k) {
        return (bytes[k] & 255) << 24 | (bytes[k + 1] & 255) << 16 | (bytes[k + 2] & 255) << 8 | bytes[k + 3] & 255;
    }

    static MarbledPaper taught(String text) {
        MarbledPaper paper = new MarbledPaper();
        write(paper, text);
        due("teach " + text, 0, paper::teach);
        return paper;
    }
}
