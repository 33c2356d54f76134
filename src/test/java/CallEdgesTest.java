/**
 * The edges of the calls, promise by promise: the last argument that is allowed and the first that is
 * not, the empty paper and the full one, and the call that is refused, behind which nothing has changed.
 */
public final class CallEdgesTest {
    private static final String INDEX = "IndexOutOfBoundsException";
    private static final String ARGUMENT = "IllegalArgumentException";
    private static final String STATE = "IllegalStateException";

    private static final int LEAST = Integer.MIN_VALUE;
    private static final int MOST = Integer.MAX_VALUE;

    private static final String SAMPLE = "paper 5 by 4; octave o across 2 down 3 strength 9 seed 5; "
        + "octave p across 1 down 1 strength 4 seed 2; comb c across teeth 2 pull 3; comb d down teeth 1 pull 6; "
        + "ink a from 490; ink b from 510; pull c to pull c + 1 when dip < 9; drift across by share a - 1; "
        + "drift down by 1 when edge b; seed p to seed o + dip when height(1, 1) > 500;";
    private static final String NEXT = "paper 7 by 6; ink z from 1;";

    /** As many as can be of all. */
    private static final String FULL = "paper 24 by 24; octave a across 8 down 8 strength 9 seed 999; "
        + "octave b across 2 down 1 strength 9 seed 0; octave c across 2 down 1 strength 9 seed 0; "
        + "octave d across 1 down 1 strength 1 seed 1; comb a across teeth 8 pull 16; comb b down teeth 7 pull 16; "
        + "comb c across teeth 1 pull 0; comb d down teeth 1 pull 1; ink a from 0; ink b from 1; ink c from 500; "
        + "ink d from 998; ink e from 999; " + "drift across by 1; drift down by dip;".repeat(10);

    private static final String PICTURE = Portrait.of(sample());
    private static final String EMPTY_PICTURE = Portrait.of(new MarbledPaper());

    /** A call that the paper refuses. */
    private interface Refusal {
        Object make(MarbledPaper paper);
    }

    private CallEdgesTest() {
    }

    public static void main(String[] args) {
        portraits();
        newObject();
        feedEdges();
        feedRefused();
        bytesInTheirOrder();
        trimEdges();
        teachChangesAllOrNothing();
        teachAgainAndAgain();
        errorAtEdges();
        countEdges();
        shareEdges();
        octaveEdges();
        gradientEdges();
        valueAndMovesEdges();
        combEdges();
        setPullEdges();
        setSeedEdges();
        driftEdges();
        dipEdges();
        foreseeEdges();
        untilEdges();
        adviseEdges();
        nothingIsChanged();
        meanAndDigestOfTheFull();
        Checks.close("CallEdgesTest");
    }

    /** A paper that is in the middle of all: dipped, changed by hand, with an error, and with a list on its tape. */
    private static MarbledPaper sample() {
        MarbledPaper x = Checks.taught(SAMPLE);
        x.dip(3);
        x.drift(2, 1);
        x.setPull(1, 9);
        x.setSeed(0, 77);
        Checks.write(x, "paper 3 by 4;");
        Checks.due("the sample's error", 5, x::teach);
        Checks.write(x, NEXT);
        return x;
    }

    private static MarbledPaper full() {
        return Checks.taught(FULL);
    }

    private static void due(String what, Object want, Checks.Call call) {
        Checks.due(what, want, call);
    }

    /** The sample refuses the call so, and behind it still is as it was. */
    private static void refused(String what, String exception, Refusal call) {
        MarbledPaper x = sample();
        due(what + " is refused", "throws." + exception, () -> call.make(x));
        due(what + " has changed nothing", PICTURE, () -> Portrait.of(x));
    }

    /** The same for a new paper. */
    private static void refusedByNew(String what, String exception, Refusal call) {
        MarbledPaper x = new MarbledPaper();
        due(what + " is refused by a new paper", "throws." + exception, () -> call.make(x));
        due(what + " has changed nothing of a new paper", EMPTY_PICTURE, () -> Portrait.of(x));
    }

    /** What is looked for in the portraits of this test is there. */
    private static void portraits() {
        due("the sample's portrait is that of any such paper", PICTURE, () -> Portrait.of(sample()));
        MarbledPaper x = sample();
        due("dips of the sample", 3, () -> x.count(0));
        due("the error of the sample", 6, x::errorAt);
        due("bytes of the sample", NEXT.length(), () -> x.count(14));
        due("orders carried out of the sample", true, () -> x.count(13) > 3);
        due("its tape", 0, x::teach);
        due("the columns of what is on its tape", 7, () -> x.count(1));
        Refusal[] changes = {p -> p.dip(1), p -> p.drift(1, 0), p -> p.drift(0, 1), p -> p.setPull(0, 16),
            p -> p.setSeed(1, 998), p -> p.trim(13), p -> p.teach(), p -> p.feed(0, 0, 0, 0, 0)};
        for (Refusal change : changes) {
            MarbledPaper y = sample();
            change.make(y);
            due("a change is seen", false, () -> PICTURE.equals(Portrait.of(y)));
        }
    }

    // ---- promise 1

    private static void newObject() {
        MarbledPaper x = new MarbledPaper();
        int[] counts = {0, 16, 12, 0, 0, 0, 0, 1, 0, 500, 500, 0, 0, 0, 0};
        for (int what = 0; what <= 14; what++) {
            int n = what;
            due("count " + n + " of a new paper", counts[n], () -> x.count(n));
        }
        due("errorAt of a new paper", -1, x::errorAt);
        due("height", 500, () -> x.height(15, 11));
        due("ink", 0, () -> x.ink(15, 11));
        due("patch", 192, () -> x.patch(15, 11));
        due("whence", 191, () -> x.whence(15, 11));
        due("whence beyond", 0, () -> x.whence(16, 12));
        due("share", 192, () -> x.share(0));
        due("drift", 11 * 16 + 15, () -> x.drift(-1, -1));
        due("dips without orders", 0, () -> x.dip(20));
        due("count of dips", 20, () -> x.count(0));
        due("until", 0, () -> x.until(0, 0, 0));
        due("foresee", 1, () -> x.foresee(20, 7));
        due("foresee carried out", 0, () -> x.foresee(1, 13));
        due("mean", 500.0, x::mean);
        refusedByNew("share 1", INDEX, p -> p.share(1));
        refusedByNew("share -1", INDEX, p -> p.share(-1));
        refusedByNew("octave 0", INDEX, p -> p.octave(0, 0));
        refusedByNew("gradient of 0", INDEX, p -> p.gradient(0, 0, 0));
        refusedByNew("value of 0", INDEX, p -> p.value(0, 0, 0));
        refusedByNew("comb 0", INDEX, p -> p.comb(0, 0));
        refusedByNew("moves of 0", INDEX, p -> p.moves(0, 0));
        refusedByNew("setPull of 0", INDEX, p -> p.setPull(0, 0));
        refusedByNew("setSeed of 0", INDEX, p -> p.setSeed(0, 0));
        refusedByNew("until of ink 1", INDEX, p -> p.until(0, 0, 1));
        refusedByNew("advise of 0", INDEX, p -> p.advise(0));
        refusedByNew("trim 1", ARGUMENT, p -> p.trim(1));
        refusedByNew("trim -1", ARGUMENT, p -> p.trim(-1));
    }

    // ---- promises 2 and 3

    private static void feedEdges() {
        MarbledPaper x = new MarbledPaper();
        for (int n = 1; n <= 100; n++) {
            int bytes = 20 * n;
            due("feed to " + bytes, bytes, () -> x.feed(0x20202020, 0x0a0a0a0a, 0x20202020, 0x0a202020, 0x2020200a));
        }
        due("the full tape", 2000, () -> x.count(14));
        due("it is right", 0, x::teach);
        due("it is empty", 0, () -> x.count(14));
        due("and takes bytes again", 20, () -> x.feed(0, 0, 0, 0, 0));
        due("it is wrong at once", 1, x::teach);
        due("it is empty behind an error", 0, () -> x.count(14));
        due("feed behind an error", 20, () -> x.feed(0, 0, 0, 0, 0));
        for (int length : new int[] {1980, 1979, 1961, 1, 0}) {
            MarbledPaper y = new MarbledPaper();
            Checks.write(y, " ".repeat(length));
            due("feed behind " + length, length + 20,
                () -> y.feed(0x20202020, 0x20202020, 0x20202020, 0x20202020, 0x20202021));
            due("all before are blanks, as long as " + length, 1, y::teach);
            due("the last byte is the last of behind " + length, length + 19, y::errorAt);
        }
    }

    private static void feedRefused() {
        for (int length : new int[] {1981, 1982, 1999, 2000}) {
            String list = NEXT + " ".repeat(length - NEXT.length());
            MarbledPaper twin = sample();
            Checks.write(twin, list);
            MarbledPaper x = sample();
            Checks.write(x, list);
            due("feed behind " + length, "throws." + STATE, () -> x.feed(0x21212121, 0x21212121, 0, -1, MOST));
            due("once more behind " + length, "throws." + STATE, () -> x.feed(0, 0, 0, 0, 0));
            due("nothing has changed", Portrait.of(twin), () -> Portrait.of(x));
        }
    }

    /** Blanks but for one byte that is wrong, at each place. */
    private static void bytesInTheirOrder() {
        for (int place = 0; place < 20; place++) {
            for (int wrong : new int[] {0x21, 0x7f, 0x80, 0xff, 0x00, 0xa0, 0x8a}) {
                int[] five = new int[5];
                for (int k = 0; k < 20; k++) {
                    five[k / 4] = five[k / 4] << 8 | (k == place ? wrong : 0x20);
                }
                MarbledPaper x = new MarbledPaper();
                x.feed(0x20202020, 0x20202020, 0x20202020, 0x20202020, 0x20202020);
                x.feed(five[0], five[1], five[2], five[3], five[4]);
                due("a wrong byte", 1, x::teach);
                due("it is at its place", 20 + place, x::errorAt);
            }
        }
    }

    private static void trimEdges() {
        for (int n = 0; n <= 40; n++) {
            String list = " ".repeat(n) + "!".repeat(40 - n);
            for (int kept : new int[] {n, n + 1}) {
                MarbledPaper x = new MarbledPaper();
                Checks.write(x, list);
                boolean allowed = kept <= 40;
                due("trim to " + kept, allowed ? kept : "throws." + ARGUMENT, () -> x.trim(kept));
                due("bytes of " + kept, allowed ? kept : 40, () -> x.count(14));
                due("trim to it again", Math.min(kept, 40), () -> x.trim(Math.min(kept, 40)));
                due("trim beyond it", "throws." + ARGUMENT, () -> x.trim(Math.min(kept, 40) + 1));
                due("the blanks are kept", kept > n && n < 40 ? 1 : 0, x::teach);
                due("and what is behind them", kept > n && n < 40 ? n : -1, x::errorAt);
            }
        }
        MarbledPaper y = new MarbledPaper();
        Checks.write(y, "paper 5 by 7; ink a from 1;");
        y.trim(14);
        due("feed behind a trim", 34, () -> y.feed(0x696e6b20, 0x7a206672, 0x6f6d2037, 0x3b202020, 0x2020200a));
        due("it stands behind what was kept", 0, y::teach);
        due("the paper", 7, () -> y.count(2));
        due("the ink", 1, () -> y.count(5));
        MarbledPaper z = new MarbledPaper();
        Checks.write(z, "!".repeat(2000));
        due("trim to all of 2000", 2000, () -> z.trim(2000));
        due("trim to none of 2000", 0, () -> z.trim(0));
        due("an empty tape is right", 0, z::teach);
        for (int n : new int[] {-1, NEXT.length() + 1, LEAST, MOST, -2, 2000, 2001}) {
            refused("trim " + n, ARGUMENT, p -> p.trim(n));
        }
    }

    // ---- promises 4 and 5

    private static void teachChangesAllOrNothing() {
        String[] wrong = {"1paper 6 by 6", "1paper 6 by 6; paper 7 by 7;!", "2ink a from 5; ink a from 6;",
            "3paper 6 by 6; drift across by 1; pull z to 1 when 1 = 1;",
            "5paper 6 by 6; octave o across 9 down 1 strength 1 seed 0;",
            "4" + "paper 6 by 6; drift across by 1;".repeat(21), "1" + "paper 6 by 6;".repeat(80) + ";"};
        for (String list : wrong) {
            MarbledPaper x = sample();
            Checks.write(x, list.substring(1));
            due("teach " + list, list.charAt(0) - '0', x::teach);
            due("the tape is empty behind " + list, 0, () -> x.count(14));
            Checks.write(x, "paper 3 by 4;");
            due("the sample's error again", 5, x::teach);
            Checks.write(x, NEXT);
            due("all stays behind " + list, PICTURE, () -> Portrait.of(x));
        }
        for (String list : new String[] {"", " \n", NEXT, "paper 5 by 4;", SAMPLE, FULL}) {
            MarbledPaper x = sample();
            Checks.write(x, list);
            due("teach " + list, 0, x::teach);
            due("the tape is empty behind " + list, 0, () -> x.count(14));
            due("all begins anew by " + list, Portrait.of(Checks.taught(list)), () -> Portrait.of(x));
        }
        MarbledPaper x = full();
        x.dip(7);
        x.drift(3, 4);
        Checks.write(x, SAMPLE);
        due("teach less than before", 0, x::teach);
        due("nothing is left of the fuller one", Portrait.of(Checks.taught(SAMPLE)), () -> Portrait.of(x));
    }

    /** Nothing of earlier lists is in the way of later ones. */
    private static void teachAgainAndAgain() {
        MarbledPaper x = new MarbledPaper();
        String most = "drift across by 1" + "+1".repeat(197) + ";";
        String wrong = "drift across by 2" + "+2".repeat(196) + "; paper";
        for (int n = 0; n < 3; n++) {
            Checks.write(x, wrong);
            due("a long wrong list", 1, x::teach);
            Checks.write(x, most);
            due("the longest list", 0, x::teach);
            due("its order", 1, () -> x.dip(1));
            due("its sum", 198 % 16, () -> x.count(11));
        }
        MarbledPaper y = new MarbledPaper();
        for (int cells = 1; cells <= 8; cells++) {
            String list = "paper 9 by 7; octave o across " + cells + " down " + (9 - cells) + " strength 9 seed 0; "
                + "comb c across teeth " + cells + " pull 5; ink a from " + 60 * cells + ";";
            Checks.write(y, list);
            due("the next list", 0, y::teach);
            due("it is seen with its seed 0", Checks.plain(list).digest(), y::digest);
        }
    }

    private static void errorAtEdges() {
        MarbledPaper x = new MarbledPaper();
        due("errorAt of a new paper", -1, x::errorAt);
        Checks.write(x, "!");
        due("errorAt ahead of teach", -1, x::errorAt);
        due("the first byte is wrong", 1, x::teach);
        due("errorAt 0", 0, x::errorAt);
        due("errorAt again", 0, x::errorAt);
        Checks.write(x, "ink" + " ".repeat(1997));
        due("errorAt stays until the next teach", 0, x::errorAt);
        due("the end of 2000 bytes is wrong", 1, x::teach);
        due("errorAt 2000", 2000, x::errorAt);
        x.dip(1);
        x.trim(0);
        due("errorAt is that of the latest teach", 2000, x::errorAt);
        due("a right one", 0, x::teach);
        due("errorAt of a right one", -1, x::errorAt);
    }

    // ---- promises 6 and 11

    private static void countEdges() {
        for (int what : new int[] {-1, 15, LEAST, MOST, 16, -2, 256}) {
            refused("count " + what, INDEX, p -> p.count(what));
        }
        MarbledPaper x = full();
        int[] counts = {0, 24, 24, 4, 4, 5, 20};
        for (int what = 0; what <= 6; what++) {
            int n = what;
            due("count " + n + " of the full one", counts[n], () -> x.count(n));
        }
        due("its greatest height is held", 999, () -> x.count(10));
        due("its smallest height is held", 0, () -> x.count(9));
        due("its orders, all but those by 0", 10 * 20 + 10 * 19, () -> x.dip(20));
        due("drift across of the full one", 200 % 24, () -> x.count(11));
        due("drift down of the full one", 190 * 10 % 24, () -> x.count(12));
        due("carried out of the full one", 390, () -> x.count(13));
        Checks.write(x, " ".repeat(2000));
        due("bytes of the full one", 2000, () -> x.count(14));
        MarbledPaper y = Checks.taught("paper 4 by 4; drift across by 3; drift down by -1;");
        y.dip(1);
        due("the greatest drift across", 3, () -> y.count(11));
        due("the greatest drift down", 3, () -> y.count(12));
        due("carried out", 2, () -> y.count(13));
        y.dip(1);
        due("carried out in all", 4, () -> y.count(13));
    }

    private static void shareEdges() {
        for (int ink : new int[] {-1, 3, LEAST, MOST, 4}) {
            refused("share " + ink, INDEX, p -> p.share(ink));
        }
        MarbledPaper x = full();
        int sum = 0;
        for (int ink = 0; ink <= 5; ink++) {
            sum += x.share(ink);
        }
        int all = sum;
        due("all spots have an ink or are bare", 576, () -> all);
        due("none is bare with an ink from 0", 0, () -> x.share(0));
        due("heights held at 0 are of ink 0", true, () -> x.share(1) > 0);
        due("heights held at 999 are of the last", true, () -> x.share(5) > 0);
        due("the sixth ink", "throws." + INDEX, () -> x.share(6));
        MarbledPaper y = Checks.taught("paper 24 by 24; ink a from 500;");
        due("none is bare", 0, () -> y.share(0));
        due("all have the one ink", 576, () -> y.share(1));
        due("their patch", 576, () -> y.patch(23, 23));
        due("their patches", 1, () -> y.count(7));
        due("their contours", 0, () -> y.count(8));
        MarbledPaper z = Checks.taught("paper 24 by 24; ink a from 501;");
        due("all are bare", 576, () -> z.share(0));
        due("none has the ink", 0, () -> z.share(1));
        due("the patch of the bare", 576, () -> z.patch(0, 0));
    }

    // ---- promises 12 to 16

    private static void octaveEdges() {
        int[][] wrong = {{-1, 0}, {2, 0}, {0, -1}, {0, 4}, {1, 4}, {LEAST, 0}, {MOST, 3},
            {0, LEAST}, {1, MOST}, {2, 4}, {-1, -1}};
        for (int[] pair : wrong) {
            refused("octave " + pair[0] + " " + pair[1], INDEX, p -> p.octave(pair[0], pair[1]));
        }
        MarbledPaper x = full();
        due("the first one's first", 8, () -> x.octave(0, 0));
        due("the first one's last", 999, () -> x.octave(0, 3));
        due("the last one's first", 1, () -> x.octave(3, 0));
        due("the last one's last", 1, () -> x.octave(3, 3));
        due("the fifth", "throws." + INDEX, () -> x.octave(4, 0));
    }

    private static void gradientEdges() {
        int[][] wrong = {{-1, 0, 0}, {2, 0, 0}, {LEAST, 0, 0}, {MOST, 0, 0}, {0, -1, 0}, {0, 9, 0}, {1, 0, -1}, {1, 0, 9},
            {0, LEAST, 0}, {0, MOST, 0}, {0, 0, LEAST}, {0, 0, MOST}, {2, 9, 9}};
        for (int[] one : wrong) {
            refused("gradient " + one[0] + " " + one[1] + " " + one[2], INDEX, p -> p.gradient(one[0], one[1], one[2]));
        }
        for (int across = 1; across <= 8; across++) {
            int cells = across;
            MarbledPaper x = Checks.taught("octave o across " + cells + " down " + (9 - cells) + " strength 1 seed 999;");
            for (int corner = 0; corner < 81; corner++) {
                int i = corner / 9;
                int j = corner % 9;
                int a = i % cells;
                int b = j % (9 - cells);
                due("gradient " + i + " " + j + " of " + cells, (999 + 3 * a * a + 5 * b + a * b) % 8,
                    () -> x.gradient(0, i, j));
            }
            x.setSeed(0, 0);
            due("gradient of seed 0", 0, () -> x.gradient(0, 0, 0));
            x.setSeed(0, 7);
            due("gradient of seed 7", 7, () -> x.gradient(0, 0, 0));
            x.setSeed(0, 8);
            due("gradient of seed 8", 0, () -> x.gradient(0, 0, 0));
        }
        due("the last octave's", 1, () -> full().gradient(3, 8, 8));
        due("the fifth octave's", "throws." + INDEX, () -> full().gradient(4, 0, 0));
    }

    private static void valueAndMovesEdges() {
        for (int which : new int[] {-1, 2, LEAST, MOST}) {
            refused("value " + which, INDEX, p -> p.value(which, 0, 0));
            refused("moves " + which, INDEX, p -> p.moves(which, 0));
        }
        MarbledPaper x = full();
        due("value of the fifth", "throws." + INDEX, () -> x.value(4, 0, 0));
        due("moves of the fifth", "throws." + INDEX, () -> x.moves(4, 0));
        // The last octave's gradient is (2, 2), and at the corner nothing is left of it.
        due("value of the last", 0, () -> x.value(3, 0, 0));
        due("value of the last in the middle", 0, () -> x.value(3, 12, 12));
        due("moves of the last", 1, () -> x.moves(3, 12));
        due("moves of the last, beside it", 0, () -> x.moves(3, 11));
        // 24 rows and 8 teeth: t is 0, 8, 16, and d 0, 8, 8; 16 * 2 * 8 / 24 is 10.
        due("moves of the first", 10, () -> x.moves(0, 1));
        due("moves of the first, another", 10, () -> x.moves(0, 2));
        due("moves of the first, none", 0, () -> x.moves(0, 3));
        due("moves of the first, at the end", 10, () -> x.moves(0, 23));
    }

    private static void combEdges() {
        int[][] wrong = {{-1, 0}, {2, 0}, {0, -1}, {0, 3}, {1, 3}, {LEAST, 0}, {MOST, 2},
            {0, LEAST}, {1, MOST}, {2, 3}, {-1, -1}};
        for (int[] pair : wrong) {
            refused("comb " + pair[0] + " " + pair[1], INDEX, p -> p.comb(pair[0], pair[1]));
        }
        MarbledPaper x = full();
        due("the first one goes across", 0, () -> x.comb(0, 0));
        due("the first one's pull", 16, () -> x.comb(0, 2));
        due("the last one goes down", 1, () -> x.comb(3, 0));
        due("the last one's teeth", 1, () -> x.comb(3, 1));
        due("the last one's pull", 1, () -> x.comb(3, 2));
        due("the fifth", "throws." + INDEX, () -> x.comb(4, 0));
    }

    // ---- promises 17 to 19

    private static void setPullEdges() {
        for (int pull : new int[] {-1, 17, LEAST, MOST}) {
            refused("setPull to " + pull, ARGUMENT, p -> p.setPull(1, pull));
            for (int comb : new int[] {-1, 2, LEAST, MOST}) {
                refused("setPull of " + comb + " to " + pull, INDEX, p -> p.setPull(comb, pull));
            }
        }
        for (int comb : new int[] {-1, 2, LEAST, MOST}) {
            refused("setPull of " + comb, INDEX, p -> p.setPull(comb, 0));
        }
        MarbledPaper x = full();
        due("to the least", 1, () -> x.setPull(3, 0));
        due("to the most", 0, () -> x.setPull(3, 16));
        due("to the same", 16, () -> x.setPull(3, 16));
        due("it is so", 16, () -> x.comb(3, 2));
        due("and no other one", 0, () -> x.comb(2, 2));
        due("the fifth", "throws." + INDEX, () -> x.setPull(4, 0));
        due("it is not counted as carried out", 0, () -> x.count(13));
        for (int pull = 0; pull <= 16; pull++) {
            int n = pull;
            x.setPull(2, n);
            due("each pull, " + n, n, () -> x.comb(2, 2));
            due("and what it moves, " + n, n, () -> x.moves(2, 12));
        }
    }

    private static void setSeedEdges() {
        for (int seed : new int[] {-1, 1000, LEAST, MOST}) {
            refused("setSeed to " + seed, ARGUMENT, p -> p.setSeed(1, seed));
            for (int octave : new int[] {-1, 2, LEAST, MOST}) {
                refused("setSeed of " + octave + " to " + seed, INDEX, p -> p.setSeed(octave, seed));
            }
        }
        for (int octave : new int[] {-1, 2, LEAST, MOST}) {
            refused("setSeed of " + octave, INDEX, p -> p.setSeed(octave, 0));
        }
        MarbledPaper x = full();
        due("to the least", 1, () -> x.setSeed(3, 0));
        due("to the most", 0, () -> x.setSeed(3, 999));
        due("to the same", 999, () -> x.setSeed(3, 999));
        due("it is so", 999, () -> x.octave(3, 3));
        due("and no other one", 0, () -> x.octave(2, 3));
        due("the fifth", "throws." + INDEX, () -> x.setSeed(4, 0));
        due("it is not counted as carried out", 0, () -> x.count(13));
    }

    private static void driftEdges() {
        int[][] wrong = {{1000, 0}, {-1000, 0}, {0, 1000}, {0, -1000}, {LEAST, 0}, {MOST, 0}, {0, LEAST}, {0, MOST},
            {1000, 1000}, {-1000, 999}, {999, -1000}};
        for (int[] pair : wrong) {
            refused("drift " + pair[0] + " " + pair[1], ARGUMENT, p -> p.drift(pair[0], pair[1]));
        }
        MarbledPaper x = Checks.taught("paper 7 by 5;");
        due("none", 0, () -> x.drift(0, 0));
        due("by the columns and rows", 0, () -> x.drift(7, 5));
        due("back by them", 0, () -> x.drift(-7, -5));
        due("one less", 4 * 7 + 6, () -> x.drift(-1, -1));
        due("one more", 0, () -> x.drift(1, 1));
        due("as far as can be", 999 % 5 * 7 + 999 % 7, () -> x.drift(999, 999));
        due("and back", 0, () -> x.drift(-999, -999));
        due("back as far as can be", 1 * 7 + 2, () -> x.drift(-999, -999));
        due("across alone", 1 * 7 + 3, () -> x.drift(1, 0));
        due("down alone", 2 * 7 + 3, () -> x.drift(0, 1));
        due("the drift across", 3, () -> x.count(11));
        due("the drift down", 2, () -> x.count(12));
        due("it is not counted as carried out", 0, () -> x.count(13));
        due("nor as a dip", 0, () -> x.count(0));
    }

    // ---- promises 20 to 23

    private static void dipEdges() {
        for (int dips : new int[] {0, 21, -1, LEAST, MOST, 22}) {
            refused("dip " + dips, ARGUMENT, p -> p.dip(dips));
        }
        for (int dips = 1; dips <= 20; dips++) {
            int n = dips;
            MarbledPaper x = Checks.taught("paper 24 by 24; drift across by 1; drift down by 1 when dip < 3;");
            due("dip " + n, n + Math.min(n, 3), () -> x.dip(n));
            due("dips of " + n, n, () -> x.count(0));
            due("dips do what orders tell, " + n, Math.min(n, 3) * 24 + n, () -> x.drift(0, 0));
            due("it is counted in all, " + n, n + Math.min(n, 3), () -> x.count(13));
        }
    }

    private static void foreseeEdges() {
        int[] whats = {6, 14, -1, LEAST, MOST, 0, 5, 15};
        int[] times = {0, 21, -1, LEAST, MOST};
        for (int what : whats) {
            refused("foresee of " + what, INDEX, p -> p.foresee(1, what));
            refused("foresee 20 of " + what, INDEX, p -> p.foresee(20, what));
            for (int dips : times) {
                refused("foresee " + dips + " of " + what, ARGUMENT, p -> p.foresee(dips, what));
            }
        }
        for (int dips : times) {
            refused("foresee " + dips, ARGUMENT, p -> p.foresee(dips, 7));
            refused("foresee " + dips + " of the last", ARGUMENT, p -> p.foresee(dips, 13));
        }
        for (int what = 7; what <= 13; what++) {
            for (int dips : new int[] {1, 2, 19, 20}) {
                MarbledPaper then = sample();
                then.dip(dips);
                int n = what;
                due("foresee " + dips + " of " + n, then.count(n), () -> sample().foresee(dips, n));
                due("of a full one, " + dips + " of " + n, behind(full(), dips, n), () -> full().foresee(dips, n));
            }
        }
    }

    private static int behind(MarbledPaper x, int dips, int what) {
        x.dip(dips);
        return x.count(what);
    }

    private static void untilEdges() {
        for (int ink : new int[] {-1, 3, LEAST, MOST}) {
            refused("until ink " + ink, INDEX, p -> p.until(0, 0, ink));
        }
        String stripes = "paper 4 by 4; octave o across 1 down 1 strength 9 seed 0; ink a from 480; ink b from 520;";
        for (int dip = 0; dip <= 22; dip++) {
            MarbledPaper x = Checks.taught(stripes + "drift across by 1 when dip = " + dip + ";");
            int want = dip < 20 ? dip + 1 : -1;
            due("until what the dip " + dip + " brings", want, () -> x.until(2, 3, 2));
            due("now", 0, () -> x.until(1, 3, 2));
            due("bare", want, () -> x.until(0, 0, 0));
        }
        MarbledPaper later = Checks.taught(stripes + "drift across by 1 when dip = 24;");
        later.dip(5);
        due("it is counted from now on", 20, () -> later.until(2, 0, 2));
        later.dip(20);
        due("and is now", 0, () -> later.until(2, 0, 2));
        MarbledPaper x = full();
        due("the last of five inks", true, () -> x.until(3, 0, 5) >= -1);
        due("the sixth", "throws." + INDEX, () -> x.until(3, 0, 6));
        MarbledPaper y = Checks.taught("drift across by 1;");
        due("without inks all are bare now", 0, () -> y.until(LEAST, MOST, 0));
        due("without inks there is no ink 1", "throws." + INDEX, () -> y.until(0, 0, 1));
    }

    private static void adviseEdges() {
        for (int comb : new int[] {-1, 2, LEAST, MOST}) {
            refused("advise " + comb, INDEX, p -> p.advise(comb));
        }
        due("the fifth", "throws." + INDEX, () -> full().advise(4));
        String inks = " ink a from 490; ink b from 520;";
        advised("0 alone has the fewest", 0,
            "paper 6 by 8; octave o across 3 down 1 strength 9 seed 1; comb c across teeth 1 pull 3;" + inks);
        advised("16 alone has the fewest", 16,
            "paper 6 by 6; octave o across 3 down 2 strength 9 seed 6; comb c across teeth 1 pull 3;" + inks);
        advised("of 14, 15 and 16 the smallest", 14,
            "paper 6 by 9; octave o across 3 down 2 strength 9 seed 4; comb c down teeth 1 pull 3;" + inks);
        advised("of 5, 7, 13 and 15 the smallest", 5,
            "paper 4 by 4; octave o across 2 down 2 strength 9 seed 3; comb c across teeth 1 pull 3;" + inks);
        advised("17 would have fewer, and is no pull", 2,
            "paper 7 by 5; octave o across 1 down 1 strength 9 seed 7; comb c down teeth 3 pull 3;" + inks);
        advised("17 would have fewer than 15", 15,
            "paper 4 by 9; octave o across 1 down 1 strength 9 seed 5; comb c across teeth 1 pull 3;" + inks);
        advised("all have the same", 0, "comb c across teeth 1 pull 3;");
    }

    private static void advised(String what, int want, String list) {
        for (int pull : new int[] {0, 1, 15, 16, want}) {
            MarbledPaper x = Checks.taught(list);
            x.setPull(0, pull);
            due(what + ", pulled " + pull, want, () -> x.advise(0));
            due(what + ", and it stays " + pull, pull, () -> x.comb(0, 2));
        }
    }

    /** What foresee, until and advise reckon does not stay. */
    private static void nothingIsChanged() {
        Refusal[] asked = {p -> p.foresee(20, 7), p -> p.foresee(1, 13), p -> p.until(1, 1, 2), p -> p.until(0, 0, 0),
            p -> p.advise(0), p -> p.advise(1), p -> p.mean(), p -> p.digest(), p -> p.count(14), p -> p.errorAt(),
            p -> p.height(1, 2), p -> p.patch(3, 3), p -> p.whence(LEAST, MOST), p -> p.share(2)};
        for (Refusal call : asked) {
            MarbledPaper x = sample();
            call.make(x);
            due("a question changes nothing", PICTURE, () -> Portrait.of(x));
        }
    }

    // ---- promises 24 and 25

    private static void meanAndDigestOfTheFull() {
        MarbledPaper x = full();
        x.dip(3);
        Checks.write(x, NEXT);
        PlainPaper plain = Checks.plain(FULL);
        plain.dip(3);
        Checks.write(plain, NEXT);
        due("mean of the full one", plain.mean(), x::mean);
        due("digest of the full one", plain.digest(), x::digest);
        due("digest again", x.digest(), x::digest);
    }
}
