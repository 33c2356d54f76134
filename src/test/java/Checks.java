import java.nio.charset.StandardCharsets;
import java.util.Arrays;

/** Counts answers that are not the ones due, and tells them. */
final class Checks {
    /** A call that may throw. */
    interface Call {
        Object make();
    }

    private static int checks;
    private static int wrong;

    private Checks() {
    }

    static void due(String what, Object want, Call call) {
        checks++;
        Object got = answer(call);
        if (!want.equals(got)) {
            wrong++;
            System.out.println(what + ": answered " + got + ", due is " + want);
        }
    }

    /** The answer, or throws.Name of what the call throws. */
    static Object answer(Call call) {
        try {
            return call.make();
        } catch (RuntimeException | StackOverflowError e) {
            return "throws." + e.getClass().getSimpleName();
        }
    }

    static void thrown(String what, Class<? extends RuntimeException> kind, Call call) {
        due(what, "throws." + kind.getSimpleName(), call);
    }

    static void close(String name) {
        System.out.println(name + ": " + checks + " checks, " + wrong + " wrong");
        if (wrong > 0) {
            System.exit(1);
        }
    }

    /** A text, whose signs are bytes, and as many zeros behind it as make it rows of twenty. */
    private static byte[] rows(String text) {
        byte[] bytes = text.getBytes(StandardCharsets.ISO_8859_1);
        return Arrays.copyOf(bytes, (bytes.length + 19) / 20 * 20);
    }

    /** The tape of the paper becomes this text, whose signs are bytes. */
    static void write(MarbledPaper paper, String text) {
        paper.trim(0);
        byte[] whole = rows(text);
        for (int k = 0; k < whole.length; k += 20) {
            paper.feed(four(whole, k), four(whole, k + 4), four(whole, k + 8), four(whole, k + 12), four(whole, k + 16));
        }
        paper.trim(text.length());
    }

    static void write(PlainPaper paper, String text) {
        paper.trim(0);
        byte[] whole = rows(text);
        for (int k = 0; k < whole.length; k += 20) {
            paper.feed(four(whole, k), four(whole, k + 4), four(whole, k + 8), four(whole, k + 12), four(whole, k + 16));
        }
        paper.trim(text.length());
    }

    static int four(byte[] bytes, int k) {
        return (bytes[k] & 255) << 24 | (bytes[k + 1] & 255) << 16 | (bytes[k + 2] & 255) << 8 | bytes[k + 3] & 255;
    }

    static MarbledPaper taught(String text) {
        MarbledPaper paper = new MarbledPaper();
        write(paper, text);
        due("teach " + text, 0, paper::teach);
        return paper;
    }

    static PlainPaper plain(String text) {
        PlainPaper paper = new PlainPaper();
        write(paper, text);
        due("the plain one's teach " + text, 0, paper::teach);
        return paper;
    }

    // ---- lists that are right, and wrong ones

    /** teach() of this list answers so. */
    static void error(String list, int error, int place) {
        MarbledPaper paper = new MarbledPaper();
        write(paper, list);
        due("teach " + list, error, paper::teach);
        due("errorAt " + list, place, paper::errorAt);
    }

    static void good(String list) {
        error(list, 0, -1);
    }

    /** There is this error at the only ? of the list, which is left out. */
    static void marked(int error, String list) {
        error(list.replace("?", ""), error, list.indexOf('?'));
    }
}
