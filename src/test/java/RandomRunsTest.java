import java.util.ArrayList;
import java.util.List;

/** Runs of calls by chance, asked of the class and of the document's plain retelling. */
public final class RandomRunsTest {
    private static final int RUNS = 6000;
    private static final int[] ERRORS = new int[6];
    private static int calls;
    private static int wrong;

    private final RandomLists random;
    private final MarbledPaper paper = new MarbledPaper();
    private final PlainPaper plain = new PlainPaper();
    private final List<String> told = new ArrayList<>();

    private RandomRunsTest(long seed) {
        random = new RandomLists(seed);
    }

    public static void main(String[] args) {
        int runs = args.length > 0 ? Integer.parseInt(args[0]) : RUNS;
        int first = args.length > 1 ? Integer.parseInt(args[1]) : 0;
        for (int run = 0; run < runs && wrong < 5; run++) {
            RandomRunsTest test = new RandomRunsTest(first + run);
            if (!test.run()) {
                wrong++;
                System.out.println("run " + (first + run) + ":\n  " + String.join("\n  ", test.told));
            }
        }
        System.out.println("RandomRunsTest: " + calls + " calls, lists with error 0 to 5 "
            + java.util.Arrays.toString(ERRORS) + ", " + wrong + " runs wrong");
        if (wrong > 0) {
            System.exit(1);
        }
    }

    private boolean run() {
        int lists = 1 + random.below(3);
        for (int list = 0; list < lists; list++) {
            if (!teach()) {
                return false;
            }
            for (int n = random.below(30); n > 0; n--) {
                if (!call()) {
                    return false;
                }
            }
        }
        return same("digest", paper::digest, plain::digest);
    }

    private boolean same(String what, Checks.Call call, Checks.Call due) {
        calls++;
        Object got = Checks.answer(call);
        Object want = Checks.answer(due);
        told.add(what + " -> " + got);
        if (!want.equals(got)) {
            told.add("due is " + want);
            return false;
        }
        return true;
    }

    private boolean teach() {
        String text = random.list();
        byte[] bytes = text.getBytes(java.nio.charset.StandardCharsets.ISO_8859_1);
        paper.trim(0);
        plain.trim(0);
        int length = Math.min(bytes.length, 2000);
        byte[] whole = java.util.Arrays.copyOf(bytes, (bytes.length + 19) / 20 * 20 + 20);
        for (int k = 0; k < length + 1; k += 20) {
            int[] n = new int[5];
            for (int i = 0; i < 5; i++) {
                n[i] = Checks.four(whole, k + 4 * i);
            }
            if (!same("feed", () -> paper.feed(n[0], n[1], n[2], n[3], n[4]),
                () -> plain.feed(n[0], n[1], n[2], n[3], n[4]))) {
                return false;
            }
        }
        told.clear();
        told.add("list " + text);
        boolean good = same("trim", () -> paper.trim(length), () -> plain.trim(length))
            && same("teach", paper::teach, () -> {
                int error = plain.teach();
                ERRORS[error]++;
                return error;
            });
        return good && same("errorAt", paper::errorAt, plain::errorAt);
    }

    private int anyNumber() {
        int kind = random.below(8);
        if (kind == 0) {
            return Integer.MIN_VALUE + random.below(3);
        }
        if (kind == 1) {
            return Integer.MAX_VALUE - random.below(3);
        }
        return random.below(60) - 20;
    }

    private int near(int most) {
        return random.below(20) == 0 ? anyNumber() : random.below(most + 3) - 1;
    }

    private boolean call() {
        int x = anyNumber();
        int y = anyNumber();
        switch (random.below(24)) {
            case 0:
                return same("height " + x + " " + y, () -> paper.height(x, y), () -> plain.height(x, y));
            case 1:
                return same("ink " + x + " " + y, () -> paper.ink(x, y), () -> plain.ink(x, y));
            case 2:
                return same("patch " + x + " " + y, () -> paper.patch(x, y), () -> plain.patch(x, y));
            case 3:
                return same("whence " + x + " " + y, () -> paper.whence(x, y), () -> plain.whence(x, y));
            case 4:
                int ink = near(5);
                return same("share " + ink, () -> paper.share(ink), () -> plain.share(ink));
            case 5:
                int octave = near(3);
                int what = near(3);
                return same("octave " + octave + " " + what, () -> paper.octave(octave, what),
                    () -> plain.octave(octave, what));
            case 6:
                int o = near(3);
                int i = near(8);
                int j = near(8);
                return same("gradient " + o + " " + i + " " + j, () -> paper.gradient(o, i, j),
                    () -> plain.gradient(o, i, j));
            case 7:
                int p = near(3);
                return same("value " + p + " " + x + " " + y, () -> paper.value(p, x, y), () -> plain.value(p, x, y));
            case 8:
                int comb = near(3);
                int which = near(2);
                return same("comb " + comb + " " + which, () -> paper.comb(comb, which),
                    () -> plain.comb(comb, which));
            case 9:
                int c = near(3);
                return same("moves " + c + " " + x, () -> paper.moves(c, x), () -> plain.moves(c, x));
            case 10:
            case 11:
                int k = near(3);
                int pull = near(16);
                return same("setPull " + k + " " + pull, () -> paper.setPull(k, pull), () -> plain.setPull(k, pull));
            case 12:
            case 13:
                int l = near(3);
                int seed = near(999);
                return same("setSeed " + l + " " + seed, () -> paper.setSeed(l, seed), () -> plain.setSeed(l, seed));
            case 14:
                int across = random.below(4) == 0 ? random.below(2010) - 1005 : x;
                int down = random.below(4) == 0 ? random.below(2010) - 1005 : y;
                return same("drift " + across + " " + down, () -> paper.drift(across, down),
                    () -> plain.drift(across, down));
            case 15:
            case 16:
                int dips = random.below(6) == 0 ? near(20) : random.below(4);
                return same("dip " + dips, () -> paper.dip(dips), () -> plain.dip(dips));
            case 17:
            case 18:
                int times = random.below(6) == 0 ? near(20) : random.below(5);
                int seen = 6 + random.below(9);
                return same("foresee " + times + " " + seen, () -> paper.foresee(times, seen),
                    () -> plain.foresee(times, seen));
            case 19:
                int inked = near(5);
                return same("until " + x + " " + y + " " + inked, () -> paper.until(x, y, inked),
                    () -> plain.until(x, y, inked));
            case 20:
                int advised = near(3);
                return same("advise " + advised, () -> paper.advise(advised), () -> plain.advise(advised));
            case 21:
                return same("mean", paper::mean, plain::mean);
            case 22:
                int n = near(14);
                return same("count " + n, () -> paper.count(n), () -> plain.count(n));
            default:
                return same("digest", paper::digest, plain::digest);
        }
    }
}
