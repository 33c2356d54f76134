/** The promises one by one, with answers that were reckoned by hand from the document. */
public final class PromiseTest {
    /** Columns of heights 500, 540, 500, 460; of inks a, b, a and bare. */
    private static final String STRIPES = "paper 4 by 4; octave o across 1 down 1 strength 9 seed 0; "
        + "ink a from 480; ink b from 520;";
    /** Only the spot (1, 1) and the four beside it are higher than 500, only (3, 3) and those beside it lower. */
    private static final String HILL = "paper 4 by 4; octave o across 1 down 1 strength 9 seed 1; ink a from 501;";
    private static final String TWO_COMBS = "paper 4 by 4; comb a across teeth 1 pull 2; comb b down teeth 1 pull 2;";

    private PromiseTest() {
    }

    public static void main(String[] args) {
        promise1();
        promise2();
        promise3();
        promise4();
        promise5();
        promise6();
        promise7();
        promise8();
        promise9();
        promise10();
        promise11();
        promise12();
        promise13();
        promise14();
        promise15();
        promise16();
        promise17();
        promise18();
        promise19();
        promise20();
        promise21();
        promise22();
        promise23();
        promise24();
        promise25();
        Checks.close("PromiseTest");
    }

    private static void due(String what, Object want, Checks.Call call) {
        Checks.due(what, want, call);
    }

    private static MarbledPaper taught(String list) {
        return Checks.taught(list);
    }

    private static void indexThrown(String what, Checks.Call call) {
        Checks.thrown(what, IndexOutOfBoundsException.class, call);
    }

    private static void argumentThrown(String what, Checks.Call call) {
        Checks.thrown(what, IllegalArgumentException.class, call);
    }

    private static void promise1() {
        MarbledPaper x = new MarbledPaper();
        int[] counts = {0, 16, 12, 0, 0, 0, 0, 1, 0, 500, 500, 0, 0, 0, 0};
        for (int what = 0; what < counts.length; what++) {
            int n = what;
            due("1: count " + n, counts[n], () -> x.count(n));
        }
        due("1: errorAt", -1, x::errorAt);
        due("1: ink", 0, () -> x.ink(3, 3));
        due("1: share", 192, () -> x.share(0));
    }

    private static void promise2() {
        MarbledPaper x = new MarbledPaper();
        // "ink a", a line end, "from 512;", and blanks, the highest byte of each number first
        due("2: feed", 20, () -> x.feed(0x696e6b20, 0x610a6672, 0x6f6d2035, 0x31323b20, 0x20202020));
        due("2: bytes", 20, () -> x.count(14));
        due("2: teach", 0, x::teach);
        due("2: the ink", 1, () -> x.count(5));
        due("2: emptied", 0, () -> x.count(14));
        x.feed(0x696e6b20, 0xffffffff, -1, 0, 0);
        due("2: high bytes", 1, x::teach);
        due("2: begin no token", 4, x::errorAt);
        for (int n = 1; n <= 100; n++) {
            int bytes = 20 * n;
            due("2: feed to " + bytes, bytes, () -> x.feed(-1, 0, 1, Integer.MIN_VALUE, Integer.MAX_VALUE));
        }
        Checks.thrown("2: feed beyond 2000", IllegalStateException.class, () -> x.feed(0, 0, 0, 0, 0));
        due("2: nothing changed", 2000, () -> x.count(14));
        x.trim(1981);
        Checks.thrown("2: feed to 2001", IllegalStateException.class, () -> x.feed(0, 0, 0, 0, 0));
        x.trim(1980);
        due("2: feed to 2000", 2000, () -> x.feed(0, 0, 0, 0, 0));
    }

    private static void promise3() {
        MarbledPaper x = new MarbledPaper();
        due("3: trim of nothing", 0, () -> x.trim(0));
        argumentThrown("3: trim 1 of nothing", () -> x.trim(1));
        x.feed(0x61616161, 0x61616161, 0x61616161, 0x61616161, 0x61616161);
        argumentThrown("3: trim 21", () -> x.trim(21));
        argumentThrown("3: trim -1", () -> x.trim(-1));
        argumentThrown("3: trim the smallest", () -> x.trim(Integer.MIN_VALUE));
        argumentThrown("3: trim the greatest", () -> x.trim(Integer.MAX_VALUE));
        due("3: nothing changed", 20, () -> x.count(14));
        due("3: trim 20", 20, () -> x.trim(20));
        due("3: trim 7", 7, () -> x.trim(7));
        due("3: bytes", 7, () -> x.count(14));
        due("3: the first ones stay", 14, () -> {
            x.trim(0);
            Checks.write(x, "paper 5 by 7; nonsense");
            return x.trim(14);
        });
        due("3: teach", 0, x::teach);
        due("3: columns", 5, () -> x.count(1));
    }

    private static void promise4() {
        MarbledPaper x = taught(STRIPES + " comb c across teeth 1 pull 3; drift across by 1; "
            + "pull c to 9 when 1 = 1; seed o to 5 when dip = 1;");
        x.dip(2);
        x.drift(1, 2);
        long before = x.digest();
        for (String wrong : new String[] {"paper 5 by 5; ink", "octave a across 1 down 1 strength 1 seed 1000;",
            "ink a from 5; ink a from 6;", "pull c to 1 when 1 = 1;", "paper 3 by 4;"}) {
            Checks.write(x, wrong);
            due("4: there is an error in " + wrong, true, () -> x.teach() != 0);
            due("4: all stays", before, x::digest);
            due("4: the tape is empty", 0, () -> x.count(14));
        }
        Checks.write(x, "paper 6 by 5; comb c down teeth 2 pull 7;");
        due("4: teach", 0, x::teach);
        int[] counts = {0, 6, 5, 0, 1, 0, 0, 1, 0, 500, 500, 0, 0, 0, 0};
        for (int what = 0; what < counts.length; what++) {
            int n = what;
            due("4: all begins anew, count " + n, counts[n], () -> x.count(n));
        }
        due("4: the pull told", 7, () -> x.comb(0, 2));
        due("4: the empty tape", 0, x::teach);
        due("4: columns of it", 16, () -> x.count(1));
        due("4: rows of it", 12, () -> x.count(2));
        due("4: combs of it", 0, () -> x.count(4));
        MarbledPaper y = taught(STRIPES);
        y.height(0, 0);
        Checks.write(y, STRIPES.replace("seed 0", "seed 4"));
        due("4: again", 0, y::teach);
        due("4: values are new", 460, () -> y.height(1, 0));
        Checks.write(y, STRIPES.replace("seed 0", "seed 4").replace("across 1", "across 2"));
        due("4: other cells", 0, y::teach);
        due("4: values are new with the same seed", true, () -> y.value(0, 1, 0) * 9 / 16 + 500 == y.height(1, 0));
        Checks.write(y, "ink z from 501;");
        due("4: no octaves any more", 0, y::teach);
        due("4: heights without them", 500, () -> y.height(1, 0));
        due("4: all are bare", 192, () -> y.share(0));
    }

    private static void promise5() {
        MarbledPaper x = new MarbledPaper();
        due("5: none", -1, x::errorAt);
        Checks.write(x, "paper 4 by 4; ?");
        due("5: none before teach", -1, x::errorAt);
        due("5: teach", 1, x::teach);
        due("5: error 1", 14, x::errorAt);
        Checks.write(x, "paper 4 by 25;");
        due("5: the one of the latest teach", 14, x::errorAt);
        due("5: teach again", 5, x::teach);
        due("5: error 5", 11, x::errorAt);
        due("5: teach nothing", 0, x::teach);
        due("5: no error", -1, x::errorAt);
    }

    private static void promise6() {
        MarbledPaper x = taught(STRIPES + " comb c down teeth 1 pull 0; comb d across teeth 1 pull 0; "
            + "comb e across teeth 1 pull 0; drift across by 5; drift down by -1; drift down by 0; "
            + "pull c to 0 when 1 = 1;");
        int[] counts = {0, 4, 4, 1, 3, 2, 4, 4, 16, 460, 540, 0, 0, 0, 0};
        for (int what = 0; what < counts.length; what++) {
            int n = what;
            due("6: count " + n, counts[n], () -> x.count(n));
        }
        x.dip(3);
        x.feed(0, 0, 0, 0, 0);
        due("6: dips", 3, () -> x.count(0));
        due("6: drift across", 3, () -> x.count(11));
        due("6: drift down", 1, () -> x.count(12));
        due("6: carried out", 6, () -> x.count(13));
        due("6: bytes", 20, () -> x.count(14));
        x.drift(-7, 0);
        x.setSeed(0, 5);
        x.setPull(0, 5);
        due("6: by hand is not carried out", 6, () -> x.count(13));
        // The highest and the lowest spot are moved over the sheet; each answer is the first call behind that.
        for (int spot = 0; spot < 16; spot++) {
            int across = spot % 4;
            int down = spot / 4;
            for (int what = 7; what <= 10; what++) {
                MarbledPaper hill = taught(HILL);
                hill.drift(across, down);
                int n = what;
                due("6: hill " + across + " " + down + " count " + n, new int[] {2, 12, 446, 554}[n - 7],
                    () -> hill.count(n));
            }
        }
        due("6: no patch before", 1, () -> new MarbledPaper().count(7));
        due("6: no height before", 500, () -> new MarbledPaper().count(9));
        due("6: nor a greatest one", 500, () -> new MarbledPaper().count(10));
        for (int what : new int[] {-1, 15, Integer.MIN_VALUE, Integer.MAX_VALUE}) {
            indexThrown("6: count " + what, () -> x.count(what));
        }
        MarbledPaper wide = taught("paper 24 by 4; paper 7 by 9; ink a from 500; paper 4 by 24;");
        due("6: columns of the latest paper", 4, () -> wide.count(1));
        due("6: rows of the latest paper", 24, () -> wide.count(2));
    }

    private static void promise7() {
        MarbledPaper x = taught(STRIPES);
        int[] heights = {500, 540, 500, 460};
        for (int column = -9; column < 9; column++) {
            int c = column;
            due("7: height " + c, heights[Math.floorMod(c, 4)], () -> x.height(c, 2));
        }
        due("7: the greatest column", 460, () -> x.height(Integer.MAX_VALUE, Integer.MIN_VALUE));
        due("7: the smallest column", 500, () -> x.height(Integer.MIN_VALUE, Integer.MAX_VALUE));
        x.setSeed(0, 2);
        due("7: along rows", 540, () -> x.height(0, 1));
        due("7: along rows, upwards", 460, () -> x.height(3, -1));
        String strong = "paper 24 by 4;";
        for (int k = 0; k < 4; k++) {
            strong += "octave o" + k + " across 4 down 1 strength 9 seed 0;";
        }
        MarbledPaper held = taught(strong);
        due("7: held below", true, () -> held.count(9) >= 0);
        due("7: held above", true, () -> held.count(10) <= 999);
        MarbledPaper four = taught(strong.replace("across 4", "across 2").replace("24 by 4", "4 by 4"));
        // Values: at (1, 0) 320 of each octave, 320 * 36 / 16 = 720 and 500 is beyond 999.
        due("7: held at 999", 999, () -> four.height(1, 0));
        due("7: held at 0", 0, () -> four.height(3, 0));
        // Values by 9 are 18 * (d + e), by 3 they are 9 * d, with d and e of 0, 24, 0, -24.
        MarbledPaper two = taught("paper 4 by 4; octave p across 1 down 1 strength 9 seed 1; "
            + "octave q across 1 down 1 strength 3 seed 0;");
        due("7: octaves are added, above", 567, () -> two.height(1, 1));
        due("7: octaves are added, below", 433, () -> two.height(3, 3));
        due("7: octaves are added, the second alone", 513, () -> two.height(1, 3));
        due("7: octaves are added, the first alone", 527, () -> two.height(0, 1));
        two.setSeed(1, 4);
        due("7: the second one turned", 540, () -> two.height(1, 1));
        two.setSeed(0, 0);
        due("7: the first one turned", 527, () -> two.height(1, 1));
        due("7: without octaves", 500, () -> new MarbledPaper().height(-5, 99));
    }

    private static void promise8() {
        MarbledPaper x = taught(STRIPES);
        int[] inks = {1, 2, 1, 0};
        for (int column = -5; column < 9; column++) {
            int c = column;
            due("8: ink " + c, inks[Math.floorMod(c, 4)], () -> x.ink(c, 3));
        }
        MarbledPaper y = taught(STRIPES.replace("520", "540"));
        due("8: a level as great as the height", 2, () -> y.ink(1, 0));
        MarbledPaper z = taught(STRIPES.replace("520", "541"));
        due("8: a level one greater", 1, () -> z.ink(1, 0));
        due("8: the smallest level", 1, () -> taught("ink a from 0;").ink(0, 0));
        due("8: the greatest column", 0, () -> x.ink(Integer.MAX_VALUE, Integer.MIN_VALUE));
    }

    private static void promise9() {
        MarbledPaper x = taught(STRIPES);
        due("9: a stripe", 4, () -> x.patch(2, 1));
        MarbledPaper y = taught("paper 4 by 4; octave o across 1 down 1 strength 9 seed 0; ink a from 500;");
        due("9: three stripes", 12, () -> y.patch(-4, 17));
        due("9: one stripe", 4, () -> y.patch(3, 0));
        y.drift(2, 0);
        due("9: around the edge", 12, () -> y.patch(0, 0));
        due("9: around the edge, from the other side", 12, () -> y.patch(3, 0));
        due("9: in the middle", 4, () -> y.patch(1, 0));
        y.setSeed(0, 2);
        y.drift(0, 2);
        due("9: around the edge above", 12, () -> y.patch(0, 0));
        due("9: around the edge below", 12, () -> y.patch(0, 3));
        due("9: two patches", 2, () -> y.count(7));
        due("9: contours", 8, () -> y.count(8));
        MarbledPaper hill = taught(HILL);
        hill.drift(-1, -1);
        due("9: around two edges", 5, () -> hill.patch(0, 0));
        due("9: around two edges, left", 5, () -> hill.patch(3, 0));
        due("9: around two edges, above", 5, () -> hill.patch(0, 3));
        due("9: its surroundings", 11, () -> hill.patch(2, 2));
        // Values are 2 * (d + e), d and e of 0, 24, 0, -24: (1, 1) alone has ink b, the four beside it have a.
        MarbledPaper z = taught("paper 4 by 4; octave o across 1 down 1 strength 9 seed 1; ink a from 501; ink b from 530;");
        due("9: a spot alone", 1, () -> z.patch(1, 1));
        due("9: corners do not touch", 1, () -> z.patch(1, 0));
        due("9: the rest", 11, () -> z.patch(3, 3));
        due("9: patches", 6, () -> z.count(7));
        due("9: all contours", 16, () -> z.count(8));
    }

    private static void promise10() {
        MarbledPaper x = taught(TWO_COMBS);
        due("10: the last comb is taken back first", 12, () -> x.whence(1, 0));
        due("10: the same spot", 12, () -> x.whence(-3, 400));
        due("10: the first spot", 0, () -> x.whence(0, 0));
        x.drift(1, 2);
        due("10: behind it the drift", 7, () -> x.whence(1, 0));
        MarbledPaper y = taught("paper 7 by 5;");
        due("10: without combs", 23, () -> y.whence(2, 3));
        y.drift(-3, 1);
        due("10: drift across to the left", 2 * 7 + 5, () -> y.whence(2, 3));
        due("10: the greatest numbers", true, () -> {
            int from = y.whence(Integer.MAX_VALUE, Integer.MIN_VALUE);
            return from == Math.floorMod(Integer.MIN_VALUE - 1L, 5) * 7 + Math.floorMod(Integer.MAX_VALUE + 3L, 7);
        });
    }

    private static void promise11() {
        MarbledPaper x = taught(STRIPES);
        due("11: bare", 4, () -> x.share(0));
        due("11: a", 8, () -> x.share(1));
        due("11: b", 4, () -> x.share(2));
        for (int ink : new int[] {-1, 3, Integer.MIN_VALUE, Integer.MAX_VALUE}) {
            indexThrown("11: share " + ink, () -> x.share(ink));
        }
        x.setSeed(0, 3);
        // Its values are 2 * (d - e), d and e each one of 0, 24, 0, -24: six of sixteen are 0.
        due("11: with another seed, a", 6, () -> x.share(1));
        due("11: with another seed, b", 5, () -> x.share(2));
        due("11: with another seed, bare", 5, () -> x.share(0));
        MarbledPaper five = taught(STRIPES + "ink c from 521; ink d from 540; ink e from 541;");
        int[] shares = {4, 8, 0, 0, 4, 0};
        for (int ink = 0; ink <= 5; ink++) {
            int n = ink;
            due("11: of five inks, " + n, shares[n], () -> five.share(n));
        }
        indexThrown("11: the sixth", () -> five.share(6));
        MarbledPaper y = new MarbledPaper();
        due("11: no inks", 192, () -> y.share(0));
        indexThrown("11: the first of no inks", () -> y.share(1));
    }

    private static void promise12() {
        MarbledPaper x = taught("octave a across 2 down 3 strength 4 seed 5; octave b across 8 down 1 strength 9 seed 999;");
        int[][] told = {{2, 3, 4, 5}, {8, 1, 9, 999}};
        for (int octave = 0; octave < 2; octave++) {
            for (int what = 0; what < 4; what++) {
                int o = octave;
                int n = what;
                due("12: octave " + o + " " + n, told[o][n], () -> x.octave(o, n));
            }
        }
        x.setSeed(1, 0);
        due("12: its seed from now on", 0, () -> x.octave(1, 3));
        int[][] wrong = {{-1, 0}, {2, 0}, {0, -1}, {0, 4}, {Integer.MAX_VALUE, 0}, {0, Integer.MIN_VALUE}, {4, 9}};
        for (int[] pair : wrong) {
            indexThrown("12: octave " + pair[0] + " " + pair[1], () -> x.octave(pair[0], pair[1]));
        }
        indexThrown("12: no octaves", () -> new MarbledPaper().octave(0, 0));
    }

    private static void promise13() {
        MarbledPaper x = taught("octave a across 3 down 5 strength 1 seed 6; octave b across 8 down 8 strength 1 seed 999;");
        due("13: gradient 0 0", 6, () -> x.gradient(0, 0, 0));
        due("13: gradient 2 4", 6, () -> x.gradient(0, 2, 4));
        due("13: by remainders", 7, () -> x.gradient(0, 5, 8));
        due("13: around across", 6, () -> x.gradient(0, 3, 5));
        due("13: of a great seed", (999 + 3 * 49 + 5 * 6 + 42) % 8, () -> x.gradient(1, 7, 6));
        due("13: around at 8", 7, () -> x.gradient(1, 8, 8));
        x.setSeed(0, 7);
        due("13: with the seed from now on", 7, () -> x.gradient(0, 0, 0));
        int[][] wrong = {{-1, 0, 0}, {2, 0, 0}, {0, -1, 0}, {0, 9, 0}, {0, 0, -1}, {0, 0, 9},
            {0, Integer.MIN_VALUE, 0}, {0, 0, Integer.MAX_VALUE}, {Integer.MIN_VALUE, 0, 0}};
        for (int[] one : wrong) {
            indexThrown("13: gradient " + one[0] + " " + one[1] + " " + one[2],
                () -> x.gradient(one[0], one[1], one[2]));
        }
    }

    private static void promise14() {
        // With one cell the value is across * (f - u) + down * (g - v); here f - u is 0, 24, 0, -24.
        int[][] gradients = {{3, 0}, {2, 2}, {0, 3}, {-2, 2}, {-3, 0}, {-2, -2}, {0, -3}, {2, -2}};
        int[] parts = {0, 24, 0, -24};
        MarbledPaper x = taught("paper 4 by 4; octave o across 1 down 1 strength 1 seed 0; comb c across teeth 1 pull 3;");
        x.drift(1, 2);
        for (int seed = 0; seed < 16; seed++) {
            x.setSeed(0, seed);
            int[] way = gradients[seed % 8];
            for (int spot = 0; spot < 16; spot++) {
                int column = spot % 4;
                int row = spot / 4;
                due("14: seed " + seed + " at " + column + " " + row, way[0] * parts[column] + way[1] * parts[row],
                    () -> x.value(0, column, row));
            }
        }
        due("14: any column and row", -96, () -> {
            x.setSeed(0, 5);
            return x.value(0, -3, Integer.MIN_VALUE + 1);
        });
        MarbledPaper y = taught("paper 4 by 4; octave o across 2 down 1 strength 1 seed 0;");
        due("14: between two gradients", 320, () -> y.value(0, 1, 0));
        due("14: around the edge", -320, () -> y.value(0, 3, 0));
        due("14: between four corners", 320, () -> y.value(0, 1, 2));
        // By the words of promise 14's part of the document, with another program.
        int[][] values = {
            {0, -113, -69, 118, 74, 0, 0},
            {-160, -278, 27, 160, -22, 48, 115},
            {109, 190, 65, -88, -86, 186, 182},
            {107, 172, -133, -385, -195, 183, 177},
            {-30, -29, 78, -146, -277, -66, 145}};
        MarbledPaper cells = taught("paper 7 by 5; octave n across 1 down 1 strength 1 seed 0; "
            + "octave o across 3 down 4 strength 1 seed 6;");
        for (int spot = 0; spot < 35; spot++) {
            int column = spot % 7;
            int row = spot / 7;
            due("14: twelve cells at " + column + " " + row, values[row][column], () -> cells.value(1, column, row));
        }
        for (int octave : new int[] {-1, 1, Integer.MAX_VALUE, Integer.MIN_VALUE}) {
            indexThrown("14: value " + octave, () -> y.value(octave, 0, 0));
        }
        indexThrown("14: no octaves", () -> new MarbledPaper().value(0, 0, 0));
    }

    private static void promise15() {
        MarbledPaper x = taught("comb a across teeth 8 pull 16; comb b down teeth 1 pull 0;");
        int[][] told = {{0, 8, 16}, {1, 1, 0}};
        for (int comb = 0; comb < 2; comb++) {
            for (int what = 0; what < 3; what++) {
                int c = comb;
                int n = what;
                due("15: comb " + c + " " + n, told[c][n], () -> x.comb(c, n));
            }
        }
        int[][] wrong = {{-1, 0}, {2, 0}, {0, -1}, {0, 3}, {Integer.MIN_VALUE, 0}, {0, Integer.MAX_VALUE}};
        for (int[] pair : wrong) {
            indexThrown("15: comb " + pair[0] + " " + pair[1], () -> x.comb(pair[0], pair[1]));
        }
        indexThrown("15: no combs", () -> new MarbledPaper().comb(0, 0));
    }

    private static void promise16() {
        MarbledPaper x = taught("paper 6 by 9; comb a across teeth 2 pull 3; comb b down teeth 1 pull 16;");
        // t is 0 2 4 6 8 1 3 5 7, d is 0 2 4 3 1 1 3 4 2
        int[] across = {0, 1, 2, 2, 0, 0, 2, 2, 1};
        int[] down = {0, 5, 10, 16, 10, 5};
        for (int line = -20; line < 20; line++) {
            int n = line;
            due("16: moves across " + n, across[Math.floorMod(n, 9)], () -> x.moves(0, n));
            due("16: moves down " + n, down[Math.floorMod(n, 6)], () -> x.moves(1, n));
        }
        due("16: the smallest line", across[Math.floorMod(Integer.MIN_VALUE, 9)], () -> x.moves(0, Integer.MIN_VALUE));
        x.setPull(0, 9);
        due("16: with the pull from now on", 8, () -> x.moves(0, 2));
        for (int comb : new int[] {-1, 2, Integer.MIN_VALUE, Integer.MAX_VALUE}) {
            indexThrown("16: moves " + comb, () -> x.moves(comb, 0));
        }
        indexThrown("16: no combs", () -> new MarbledPaper().moves(0, 0));
    }

    private static void promise17() {
        MarbledPaper x = taught(TWO_COMBS);
        due("17: setPull", 2, () -> x.setPull(1, 16));
        due("17: setPull again", 16, () -> x.setPull(1, 0));
        due("17: its pull", 0, () -> x.comb(1, 2));
        due("17: the other's pull", 2, () -> x.comb(0, 2));
        due("17: whence", 1, () -> x.whence(1, 0));
        argumentThrown("17: pull 17", () -> x.setPull(0, 17));
        argumentThrown("17: pull -1", () -> x.setPull(0, -1));
        argumentThrown("17: the smallest pull", () -> x.setPull(0, Integer.MIN_VALUE));
        indexThrown("17: comb 2", () -> x.setPull(2, 3));
        indexThrown("17: comb -1", () -> x.setPull(-1, 3));
        indexThrown("17: the comb is looked at first", () -> x.setPull(2, 17));
        due("17: nothing changed", 2, () -> x.comb(0, 2));
        MarbledPaper y = taught(STRIPES + "comb c across teeth 1 pull 0;");
        due("17: height ahead", 540, () -> y.height(1, 1));
        y.setPull(0, 2);
        due("17: height behind", 500, () -> y.height(1, 1));
    }

    private static void promise18() {
        MarbledPaper x = taught(STRIPES);
        due("18: height ahead", 540, () -> x.height(1, 0));
        due("18: patches ahead", 4, () -> x.count(7));
        due("18: setSeed", 0, () -> x.setSeed(0, 999));
        due("18: its seed", 999, () -> x.octave(0, 3));
        due("18: setSeed again", 999, () -> x.setSeed(0, 4));
        due("18: height behind", 460, () -> x.height(1, 0));
        argumentThrown("18: seed 1000", () -> x.setSeed(0, 1000));
        argumentThrown("18: seed -1", () -> x.setSeed(0, -1));
        argumentThrown("18: the greatest seed", () -> x.setSeed(0, Integer.MAX_VALUE));
        indexThrown("18: octave 1", () -> x.setSeed(1, 0));
        indexThrown("18: octave -1", () -> x.setSeed(-1, 0));
        indexThrown("18: the octave is looked at first", () -> x.setSeed(1, 1000));
        due("18: nothing changed", 4, () -> x.octave(0, 3));
    }

    private static void promise19() {
        MarbledPaper x = taught("paper 5 by 7;");
        due("19: drift", 2 * 5 + 3, () -> x.drift(3, 2));
        due("19: drift on", 1 * 5 + 2, () -> x.drift(-1, -1));
        due("19: as far as can be", (1 + 999) % 7 * 5 + Math.floorMod(2 - 999, 5), () -> x.drift(-999, 999));
        due("19: drift across", Math.floorMod(2 - 999, 5), () -> x.count(11));
        due("19: drift down", 1000 % 7, () -> x.count(12));
        x.drift(999, -999);
        due("19: and back", 2, () -> x.count(11));
        due("19: and back down", 1, () -> x.count(12));
        x.drift(-999, 999);
        int[][] wrong = {{1000, 0}, {-1000, 0}, {0, 1000}, {0, -1000}, {Integer.MIN_VALUE, 0}, {0, Integer.MAX_VALUE}};
        for (int[] pair : wrong) {
            argumentThrown("19: drift " + pair[0] + " " + pair[1], () -> x.drift(pair[0], pair[1]));
        }
        due("19: nothing changed", 1000 % 7 * 5 + Math.floorMod(2 - 999, 5), () -> x.drift(0, 0));
        MarbledPaper y = taught(STRIPES);
        due("19: ink ahead", 2, () -> y.ink(1, 0));
        y.drift(1, 0);
        due("19: ink behind", 2, () -> y.ink(2, 0));
    }

    private static void promise20() {
        MarbledPaper x = taught("paper 4 by 4; octave o across 1 down 1 strength 1 seed 7; comb c across teeth 1 pull 5; "
            + "drift across by 1; drift down by 4; pull c to pull c + 9 when dip >= 1; "
            + "seed o to pull c * 100 when pull c > 14; seed o to -5 when dip = 2;");
        due("20: the first dip", 1, () -> x.dip(1));
        // pull 14, which is not greater than 14
        due("20: the second dip", 2, () -> x.dip(1));
        // pull 16, seed 999, seed 0
        due("20: the third dip goes by what it has changed", 4, () -> x.dip(1));
        due("20: held at 16", 16, () -> x.comb(0, 2));
        due("20: held at 0", 0, () -> x.octave(0, 3));
        due("20: the pull stays, the seed is held at 999", 2, () -> x.dip(1));
        due("20: the seed", 999, () -> x.octave(0, 3));
        due("20: three dips, a drift each", 3, () -> x.dip(3));
        due("20: dips", 7, () -> x.count(0));
        due("20: carried out", 12, () -> x.count(13));
        due("20: as many as can be", 20, () -> x.dip(20));
        due("20: dips in all", 27, () -> x.count(0));
        for (int dips : new int[] {0, 21, -1, Integer.MIN_VALUE, Integer.MAX_VALUE}) {
            argumentThrown("20: dip " + dips, () -> x.dip(dips));
        }
        due("20: nothing changed", 27, () -> x.count(0));
        MarbledPaper y = taught(STRIPES + " drift across by 1 when edge a and share a = 8; "
            + "drift down by 1 when edge a or height(1, 0) = 500;");
        // behind the first order column 0 is bare, and column 1 has come from 0
        due("20: what is looked at is of its turn", 2, () -> y.dip(1));
        due("20: drifts of it", 1 * 4 + 1, () -> y.drift(0, 0));
        // column 0 is bare; height(1, 0) still is 500
        due("20: the next one", 1, () -> y.dip(1));
        for (int down = 0; down < 4; down++) {
            // Rows of 500, 540, 500, 460: ink b is in one row alone.
            MarbledPaper edge = taught(STRIPES.replace("seed 0", "seed 2") + "drift across by 1 when edge b;");
            edge.drift(0, down);
            due("20: the edge has every row, " + down, 1, () -> edge.dip(1));
        }
        MarbledPaper z = taught("paper 24 by 7; drift across by 2047*1024*1024+1024*1023*1023; drift down by -(2048*1024*1024);");
        z.drift(23, 6);
        z.dip(1);
        int sum = 2047 * 1024 * 1024 + 1024 * 1023 * 1023;
        due("20: drifts do not wrap around, across", Math.floorMod(23L + sum, 24), () -> z.count(11));
        due("20: drifts do not wrap around, down", Math.floorMod(6L + Integer.MIN_VALUE, 7), () -> z.count(12));
    }

    private static void promise21() {
        MarbledPaper x = taught(STRIPES + " comb c across teeth 1 pull 0; drift across by 1; drift down by 2; "
            + "pull c to dip when dip > 2; seed o to 1 when dip = 4;");
        x.dip(1);
        long before = x.digest();
        int[] seen = new int[15];
        for (int dips = 1; dips <= 20; dips++) {
            MarbledPaper other = taught(STRIPES + " comb c across teeth 1 pull 0; drift across by 1; drift down by 2; "
                + "pull c to dip when dip > 2; seed o to 1 when dip = 4;");
            other.dip(1);
            other.dip(dips);
            for (int what = 7; what <= 13; what++) {
                int n = dips;
                int w = what;
                due("21: foresee " + n + " " + w, other.count(w), () -> x.foresee(n, w));
                seen[w] += other.count(w) != x.count(w) ? 1 : 0;
            }
        }
        due("21: nothing is changed", before, x::digest);
        for (int what = 7; what <= 10; what++) {
            int w = what;
            due("21: the first call foresees " + w, new int[] {2, 12, 446, 554}[w - 7],
                () -> taught(HILL + "drift across by 1;").foresee(1, w));
        }
        due("21: carried out in all", 4, () -> x.foresee(1, 13));
        due("21: drift across", 3, () -> x.foresee(2, 11));
        due("21: drift down", 2, () -> x.foresee(2, 12));
        due("21: it makes a difference", true, () -> seen[7] > 0 && seen[8] > 0 && seen[9] > 0 && seen[13] == 20);
        for (int dips : new int[] {0, 21, -1, Integer.MIN_VALUE, Integer.MAX_VALUE}) {
            argumentThrown("21: foresee " + dips, () -> x.foresee(dips, 7));
            argumentThrown("21: dips are looked at first, " + dips, () -> x.foresee(dips, 6));
        }
        for (int what : new int[] {6, 14, 0, -1, Integer.MIN_VALUE, Integer.MAX_VALUE}) {
            indexThrown("21: foresee what " + what, () -> x.foresee(1, what));
        }
    }

    private static void promise22() {
        MarbledPaper x = taught(STRIPES + " drift across by 1;");
        long before = x.digest();
        due("22: now", 0, () -> x.until(1, 0, 2));
        due("22: behind one dip", 1, () -> x.until(2, 5, 2));
        due("22: behind three", 3, () -> x.until(-4, 0, 2));
        due("22: bare", 1, () -> x.until(0, 0, 0));
        due("22: bare now", 0, () -> x.until(-1, 0, 0));
        due("22: nothing is changed", before, x::digest);
        due("22: behind twenty", 20, () -> taught(STRIPES + "drift across by 1 when dip = 19;").until(2, 0, 2));
        due("22: not by twenty", -1, () -> taught(STRIPES + "drift across by 1 when dip = 20;").until(2, 0, 2));
        due("22: never", -1, () -> taught(STRIPES + "ink c from 999; drift across by 1;").until(0, 0, 3));
        for (int ink : new int[] {-1, 3, Integer.MIN_VALUE, Integer.MAX_VALUE}) {
            indexThrown("22: until " + ink, () -> x.until(0, 0, ink));
        }
    }

    private static void promise23() {
        advised("paper 4 by 5; octave o across 1 down 3 strength 9 seed 1; comb c across teeth 3 pull 3; "
            + "ink a from 490; ink b from 520;", 3);
        advised("paper 4 by 4; octave o across 2 down 2 strength 9 seed 3; comb c across teeth 3 pull 3; "
            + "ink a from 490; ink b from 520;", 5);
        advised("paper 4 by 9; octave o across 2 down 3 strength 9 seed 7; comb c across teeth 7 pull 3; "
            + "ink a from 490; ink b from 520;", 16);
        MarbledPaper x = taught("comb b across teeth 1 pull 2;");
        due("23: of several the smallest", 0, () -> taught("comb c across teeth 1 pull 7;").advise(0));
        for (int comb : new int[] {-1, 1, Integer.MIN_VALUE, Integer.MAX_VALUE}) {
            indexThrown("23: advise " + comb, () -> x.advise(comb));
        }
        indexThrown("23: no combs", () -> new MarbledPaper().advise(0));
    }

    /** The pull advised is the first one that gives the fewest patches, when each is set by hand. */
    private static void advised(String list, int want) {
        MarbledPaper x = taught(list);
        long before = x.digest();
        due("23: advise", want, () -> x.advise(0));
        due("23: nothing is changed", before, x::digest);
        int fewest = Integer.MAX_VALUE;
        int best = -1;
        for (int pull = 0; pull <= 16; pull++) {
            x.setPull(0, pull);
            if (x.count(7) < fewest) {
                fewest = x.count(7);
                best = pull;
            }
        }
        int found = best;
        due("23: as by hand", want, () -> found);
        due("23: whatever its pull is", want, () -> x.advise(0));
    }

    private static void promise24() {
        due("24: a new one", 500.0, () -> new MarbledPaper().mean());
        due("24: stripes", 500.0, () -> taught(STRIPES).mean());
        MarbledPaper x = taught("paper 6 by 4; octave o across 1 down 1 strength 9 seed 0;");
        int[] heights = new int[6];
        int sum = 0;
        for (int column = 0; column < 6; column++) {
            heights[column] = x.height(column, 0);
            sum += heights[column];
        }
        double mean = 4.0 * sum / 24.0;
        due("24: six columns", mean, x::mean);
        MarbledPaper y = taught("paper 5 by 7; octave o across 3 down 2 strength 5 seed 11;");
        long all = 0;
        for (int spot = 0; spot < 35; spot++) {
            all += y.height(spot % 5, spot / 5);
        }
        double due = (double) all / 35.0;
        due("24: 35 spots", due, y::mean);
        due("24: it is no whole number", true, () -> y.mean() != (double) (long) y.mean());
    }

    private static void promise25() {
        MarbledPaper x = new MarbledPaper();
        long d = 937;
        for (int what = 0; what < 15; what++) {
            d = d * 31 + x.count(what);
        }
        d = d * 31 + 192;
        for (int spot = 0; spot < 192; spot++) {
            d = d * 31 + 500;
        }
        long empty = d;
        due("25: a new one", empty, x::digest);
        MarbledPaper y = taught(STRIPES + "comb c down teeth 3 pull 4; comb e across teeth 1 pull 2; drift across by 1;");
        y.dip(2);
        y.feed(1, 2, 3, 4, 5);
        d = 937;
        for (int what = 0; what < 15; what++) {
            d = d * 31 + y.count(what);
        }
        for (int n : new int[] {1, 1, 9, 0, 1, 3, 4, 0, 1, 2, 4, 8, 4}) {
            d = d * 31 + n;
        }
        for (int row = 0; row < 4; row++) {
            for (int column = 0; column < 4; column++) {
                d = d * 31 + y.height(column, row);
            }
        }
        long full = d;
        due("25: one with all", full, y::digest);
        y.setPull(1, 3);
        due("25: it goes by what is now", true, () -> y.digest() != full);
    }
}
