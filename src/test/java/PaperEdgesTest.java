/**
 * The sentences of "2. The paper" that name an edge, one after the other: remainders and the sheet
 * wrapped around, what is held, what is cut, and which orders count as carried out.
 */
public final class PaperEdgesTest {
    private static final int LEAST = Integer.MIN_VALUE;
    private static final int MOST = Integer.MAX_VALUE;
    /** These two in the language, without a step that wraps around. */
    private static final String MAX = "(2147*1000*1000+483647)";
    private static final String MIN = "(-2147*1000*1000-483648)";

    private static final int[] FAR = {0, 1, -1, 4, 5, 6, 7, 8, -4, -5, -6, -7, -8, 34, 35, 36, -35, -36, MOST, MOST - 1,
        LEAST, LEAST + 1};

    /** 7 by 5, with values and moves that tell all columns and rows apart. */
    private static final String UNEVEN = "paper 7 by 5; octave o across 3 down 4 strength 9 seed 6; "
        + "comb c across teeth 1 pull 9; comb d down teeth 2 pull 5; ink a from 470; ink b from 500; ink c from 530; ";
    /** Columns of heights 500, 540, 500, 460. */
    private static final String STRIPES = "paper 4 by 4; octave o across 1 down 1 strength 9 seed 0; ";

    private PaperEdgesTest() {
    }

    public static void main(String[] args) {
        columnsAndRowsByTheRemainder();
        remaindersInSums();
        valuesOfAllSizes();
        movesOfAllSizes();
        whenceAroundTheEdges();
        heightsAreCutTowardsZero();
        heightsAreHeld();
        heightsBehindEachSeed();
        inksAndLevels();
        patchesAroundTheEdges();
        pullsAreHeld();
        seedsAreHeld();
        driftsByTheRemainder();
        whatCountsAsCarriedOut();
        ordersGoByThoseAhead();
        theTwentiethOrder();
        shareIsOfJustThisInk();
        edgeIsOfTheFirstColumn();
        dipIsTheNumberOfDips();
        Checks.close("PaperEdgesTest");
    }

    private static void due(String what, Object want, Checks.Call call) {
        Checks.due(what, want, call);
    }

    private static MarbledPaper taught(String list) {
        return Checks.taught(list);
    }

    // ---- columns and rows

    private static void columnsAndRowsByTheRemainder() {
        PlainPaper plain = Checks.plain(UNEVEN);
        for (int column : FAR) {
            MarbledPaper x = taught(UNEVEN);
            due("moves across " + column, plain.moves(0, Math.floorMod(column, 5)), () -> x.moves(0, column));
            due("moves down " + column, plain.moves(1, Math.floorMod(column, 7)), () -> x.moves(1, column));
            for (int row : FAR) {
                int c = Math.floorMod(column, 7);
                int r = Math.floorMod(row, 5);
                String at = " at " + column + " " + row;
                int ink = plain.ink(c, r);
                due("height" + at, plain.height(c, r), () -> x.height(column, row));
                due("ink" + at, ink, () -> x.ink(column, row));
                due("patch" + at, plain.patch(c, r), () -> x.patch(column, row));
                due("whence" + at, plain.whence(c, r), () -> x.whence(column, row));
                due("value" + at, plain.value(0, c, r), () -> x.value(0, column, row));
                due("until" + at, 0, () -> x.until(column, row, ink));
                due("until the next" + at, -1, () -> x.until(column, row, (ink + 1) % 4));
            }
        }
    }

    private static void remaindersInSums() {
        PlainPaper plain = Checks.plain(UNEVEN);
        String[][] numbers = {{"0", "0"}, {"6", "6"}, {"7", "7"}, {"8", "8"}, {"-1", "-1"}, {"-7", "-7"}, {"-8", "-8"},
            {MAX, String.valueOf(MOST)}, {MIN, String.valueOf(LEAST)}, {MAX + "+1", String.valueOf(LEAST)},
            {"999999", "999999"}, {"-999999", "-999999"}};
        for (String[] column : numbers) {
            for (String[] row : numbers) {
                int c = Math.floorMod(Integer.parseInt(column[1]), 7);
                int r = Math.floorMod(Integer.parseInt(row[1]), 5);
                String sum = "height(" + column[0] + "," + row[0] + ")";
                due(sum, 1,
                    () -> taught(UNEVEN + "drift across by 1 when " + sum + " = " + plain.height(c, r) + ";").dip(1));
            }
        }
    }

    private static void valuesOfAllSizes() {
        int[] sizes = {4, 5, 24};
        int[] cells = {1, 3, 8};
        for (int size = 0; size < 9; size++) {
            int columns = sizes[size / 3];
            int rows = sizes[size % 3];
            for (int cell = 0; cell < 9; cell++) {
                String list = "paper " + columns + " by " + rows + "; octave o across " + cells[cell / 3] + " down "
                    + cells[cell % 3] + " strength 1 seed ";
                for (int seed = 0; seed < 9; seed++) {
                    MarbledPaper x = taught(list + seed + ";");
                    PlainPaper plain = Checks.plain(list + seed + ";");
                    for (int spot = columns * rows > 400 ? seed % 2 : 0; spot < columns * rows;
                            spot += columns * rows > 400 ? 2 : 1) {
                        int c = spot % columns;
                        int r = spot / columns;
                        due(list + seed + " at " + c + " " + r, plain.value(0, c, r), () -> x.value(0, c, r));
                    }
                }
            }
        }
    }

    // ---- combs

    private static void movesOfAllSizes() {
        for (int lines = 4; lines <= 24; lines++) {
            for (int teeth = 1; teeth <= 8; teeth++) {
                MarbledPaper x = taught("paper " + lines + " by " + lines + "; comb c across teeth " + teeth
                    + " pull 16; comb d down teeth " + teeth + " pull 1; comb e across teeth " + teeth
                    + " pull 3; comb f down teeth " + teeth + " pull 16;");
                for (int line = 0; line < lines; line++) {
                    int t = line * teeth % lines;
                    int d = Math.min(t, lines - t);
                    int n = line;
                    String of = " of " + line + " of " + lines + " with teeth " + teeth;
                    due("moves" + of, 32 * d / lines, () -> x.moves(0, n));
                    due("moves by 1" + of, 2 * d / lines, () -> x.moves(1, n));
                    due("moves by 3" + of, 6 * d / lines, () -> x.moves(2, n));
                    due("moves by the last" + of, 32 * d / lines, () -> x.moves(3, n));
                }
                x.setPull(0, 0);
                int middle = lines / 2;
                due("with a pull of 0 none is moved", 0, () -> x.moves(0, middle));
            }
        }
    }

    private static void whenceAroundTheEdges() {
        // Row 12 is moved by 16, row 11 by 14, row 13 by 14, of 4 columns.
        MarbledPaper x = taught("paper 4 by 24; comb c across teeth 1 pull 16;");
        due("moved by all columns, four times", 12 * 4 + 3, () -> x.whence(3, 12));
        due("moved by 14, from the right edge on", 11 * 4 + 2, () -> x.whence(0, 11));
        due("moved by 14, to the left edge", 13 * 4, () -> x.whence(2, 13));
        due("moved by 1", 4 + 3, () -> x.whence(0, 1));
        due("not moved", 0, () -> x.whence(0, 0));
        MarbledPaper y = taught("paper 24 by 4; comb c down teeth 1 pull 16;");
        due("moved by all rows, four times", 3 * 24 + 12, () -> y.whence(12, 3));
        due("moved by 14, from the bottom on", 2 * 24 + 11, () -> y.whence(11, 0));
        due("moved by 14, to the top", 13, () -> y.whence(13, 2));
        // Two combs across are added, and a drift comes behind them.
        MarbledPaper z = taught("paper 4 by 4; comb c across teeth 1 pull 3; comb d across teeth 1 pull 2;");
        due("two combs", 4 + 3, () -> z.whence(1, 1));
        due("two combs, in the middle", 8, () -> z.whence(5, 2));
        z.drift(3, 3);
        due("two combs and drifts", 2 * 4, () -> z.whence(1, 1));
        // A comb goes by the row that the one behind it has left: (1, 0) comes from row 3, which is moved by 1.
        MarbledPaper w = taught("paper 4 by 4; comb a across teeth 1 pull 2; comb b down teeth 1 pull 2;");
        due("the last comb first", 12, () -> w.whence(1, 0));
        MarbledPaper v = taught("paper 4 by 4; comb b down teeth 1 pull 2; comb a across teeth 1 pull 2;");
        due("told the other way round", 12 + 1, () -> v.whence(1, 0));
        due("and in another row", 3, () -> v.whence(0, 1));
    }

    // ---- heights and inks

    private static void heightsAreCutTowardsZero() {
        // Values are 0, 72, 0, -72: 4 and a half by 16.
        MarbledPaper x = taught("paper 4 by 4; octave o across 1 down 1 strength 1 seed 0;");
        due("cut down above", 504, () -> x.height(1, 0));
        due("cut up below", 496, () -> x.height(3, 0));
        MarbledPaper y = taught("paper 4 by 4; octave o across 1 down 1 strength 1 seed 0; "
            + "octave p across 1 down 1 strength 1 seed 0;");
        due("all octaves are added first", 509, () -> y.height(1, 0));
        due("all octaves are added first, below", 491, () -> y.height(3, 0));
        // By strength 3 and 2 it is 13 and a half, and 9.
        MarbledPaper z = taught("paper 4 by 4; octave o across 1 down 1 strength 3 seed 0; "
            + "octave p across 1 down 1 strength 2 seed 4;");
        due("one against the other", 504, () -> z.height(1, 0));
        due("one against the other, below", 496, () -> z.height(3, 0));
    }

    private static String octaves(int... strengths) {
        StringBuilder text = new StringBuilder("paper 4 by 4; ");
        for (int k = 0; k < strengths.length; k++) {
            text.append("octave o").append(k).append(" across 2 down 1 strength ").append(strengths[k]).append(" seed 0; ");
        }
        return text.toString();
    }

    private static void heightsAreHeld() {
        // In the row 0 values are 0, 320, 0, -320, and by a strength in all of s the heights go 20 * s up and down.
        int[][] due = {{9, 9, 6, 980, 20}, {9, 9, 7, 999, 0}, {9, 9, 8, 999, 0}, {9, 9, 9, 999, 0}};
        for (int[] one : due) {
            MarbledPaper x = taught(octaves(one[0], one[1], one[2]));
            due("the highest by " + one[2], one[3], () -> x.height(1, 0));
            due("the lowest by " + one[2], one[4], () -> x.height(3, 0));
            due("between them", 500, () -> x.height(2, 0));
        }
        MarbledPaper all = taught(octaves(9, 9, 9, 9));
        due("the highest of all", 999, () -> all.count(10));
        due("the lowest of all", 0, () -> all.count(9));
        // 20 * 320 and 8 * 198 are 7984 (499 by 16), 24 * 320 and 4 * 72 are 7968 (498).
        MarbledPaper a = taught(octaves(9, 9, 2) + "octave z across 3 down 1 strength 8 seed 0;");
        due("it would be 999", 999, () -> a.height(1, 0));
        MarbledPaper b = taught(octaves(9, 9, 6) + "octave z across 1 down 1 strength 4 seed 0;");
        due("it would be 998", 998, () -> b.height(1, 0));
        MarbledPaper c = taught(octaves(9, 9, 2) + "octave z across 5 down 1 strength 8 seed 1;");
        due("it would be 1", 1, () -> c.height(3, 0));
        MarbledPaper d = taught(octaves(9, 9, 6) + "octave z across 1 down 1 strength 7 seed 1;");
        due("it would be -1", 0, () -> d.height(3, 0));
    }

    private static void inksAndLevels() {
        int[] heights = {500, 540, 500, 460};
        for (int level : new int[] {0, 459, 460, 461, 499, 500, 501, 539, 540, 541, 999}) {
            MarbledPaper x = taught(STRIPES + "ink a from " + level + ";");
            for (int column = 0; column < 4; column++) {
                int c = column;
                due("ink from " + level + " at " + c, level <= heights[c] ? 1 : 0, () -> x.ink(c, 0));
            }
        }
        MarbledPaper five = taught(STRIPES + "ink a from 0; ink b from 460; ink c from 500; ink d from 540; "
            + "ink e from 541;");
        int[] inks = {3, 4, 3, 2};
        for (int column = 0; column < 4; column++) {
            int c = column;
            due("of five inks at " + c, inks[c], () -> five.ink(c, 2));
        }
        MarbledPaper held = taught(octaves(9, 9, 7) + "ink a from 0; ink b from 1; ink c from 998; ink d from 999;");
        due("the greatest level", 4, () -> held.ink(1, 0));
        due("the smallest level", 1, () -> held.ink(3, 0));
    }

    /** On one paper, the greatest with all octaves: heights of a seed, also where another one was before. */
    private static void heightsBehindEachSeed() {
        String list = "paper 24 by 24; octave a across 2 down 3 strength 9 seed 0; "
            + "octave b across 3 down 1 strength 9 seed 7; octave c across 1 down 2 strength 9 seed 8; "
            + "octave d across 8 down 5 strength 9 seed 999; ink k from 500;";
        MarbledPaper x = taught(list);
        PlainPaper plain = Checks.plain(list);
        due("heights at first", plain.digest(), x::digest);
        for (int octave = 0; octave < 4; octave++) {
            int o = octave;
            for (int seed : new int[] {0, 7, 9, 8, 16, 14, 2, 3, 4, 5, 6, 1, 15, 998, 999, 997, 0, 7}) {
                due("octave " + o, plain.setSeed(o, seed), () -> x.setSeed(o, seed));
                due("heights of octave " + o + " with seed " + seed, plain.digest(), x::digest);
            }
        }
    }

    // ---- patches and contours

    private static void patchesAroundTheEdges() {
        String list = "paper 4 by 5; octave o across 1 down 1 strength 9 seed 0; ink a from 501;";
        for (int drift = 0; drift < 4; drift++) {
            MarbledPaper x = taught(list);
            x.drift(drift, 0);
            int stripe = 1 + drift;
            due("a column of ink, drifted " + drift, 5, () -> x.patch(stripe, 2));
            due("the columns beside it, drifted " + drift, 15, () -> x.patch(stripe + 1, 0));
            due("the columns on its other side, drifted " + drift, 15, () -> x.patch(stripe - 1, 4));
            due("two patches", 2, () -> x.count(7));
            due("contours on both sides", 10, () -> x.count(8));
        }
        // Rows of 0, above, (0,) 0, below: with five rows the values are others, but one half is above 500.
        for (int drift = 0; drift < 5; drift++) {
            MarbledPaper x = taught(list.replace("seed 0", "seed 2"));
            x.drift(0, drift);
            PlainPaper plain = Checks.plain(list.replace("seed 0", "seed 2"));
            plain.drift(0, drift);
            for (int row = -1; row < 6; row++) {
                int r = row;
                due("rows of ink, drifted " + drift + " at " + r, plain.patch(1, r), () -> x.patch(1, r));
            }
            due("two patches of rows", 2, () -> x.count(7));
            due("contours above and below", 8, () -> x.count(8));
        }
        // Two spots that touch at a corner are of two patches, also around the edges.
        MarbledPaper hill = taught("paper 4 by 4; octave o across 1 down 1 strength 9 seed 1; "
            + "ink a from 501; ink b from 530;");
        for (int spot = 0; spot < 16; spot++) {
            hill.drift(1, spot % 4 == 0 ? 1 : 0);
            int c = hill.count(11);
            int r = hill.count(12);
            due("the top, drifted " + c + " " + r, 1, () -> hill.patch(1 + c, 1 + r));
            due("beside it, drifted " + c + " " + r, 1, () -> hill.patch(2 + c, 1 + r));
            due("below it, drifted " + c + " " + r, 1, () -> hill.patch(1 + c, 2 + r));
            due("the rest, drifted " + c + " " + r, 11, () -> hill.patch(3 + c, 3 + r));
            due("patches of it", 6, () -> hill.count(7));
            due("contours of it", 16, () -> hill.count(8));
        }
        MarbledPaper all = taught("paper 24 by 24; ink a from 500;");
        due("all spots are one patch", 576, () -> all.patch(0, 23));
        due("of one patch", 1, () -> all.count(7));
        due("without contours", 0, () -> all.count(8));
    }

    // ---- dips

    private static void pullsAreHeld() {
        String[][] sums = {{"-1", "0"}, {"0", "0"}, {"1", "1"}, {"15", "15"}, {"16", "16"}, {"17", "16"},
            {"999999", "16"}, {"-999999", "0"}, {MAX, "16"}, {MIN, "0"}, {MAX + "+1", "0"}, {MIN + "-1", "16"}};
        for (String[] sum : sums) {
            int want = Integer.parseInt(sum[1]);
            for (int before : new int[] {0, 1, 8, 15, 16}) {
                MarbledPaper x = taught("comb c across teeth 1 pull " + before + "; comb d down teeth 1 pull 5; pull c to "
                    + sum[0] + " when 1 = 1;");
                due("pull " + before + " to " + sum[0] + " is carried out", want == before ? 0 : 1, () -> x.dip(1));
                due("pull " + before + " to " + sum[0], want, () -> x.comb(0, 2));
                due("no other pull", 5, () -> x.comb(1, 2));
                due("once more it stays", 0, () -> x.dip(1));
                due("counted in all", want == before ? 0 : 1, () -> x.count(13));
            }
        }
    }

    private static void seedsAreHeld() {
        String[][] sums = {{"-1", "0"}, {"0", "0"}, {"1", "1"}, {"998", "998"}, {"999", "999"}, {"1000", "999"},
            {"999999", "999"}, {"-999999", "0"}, {MAX, "999"}, {MIN, "0"}, {MAX + "+1", "0"}, {MIN + "-1", "999"}};
        for (String[] sum : sums) {
            int want = Integer.parseInt(sum[1]);
            for (int before : new int[] {0, 1, 500, 998, 999}) {
                MarbledPaper x = taught("octave o across 1 down 1 strength 1 seed " + before
                    + "; octave p across 1 down 1 strength 1 seed 5; seed o to " + sum[0] + " when 1 = 1;");
                due("seed " + before + " to " + sum[0] + " is carried out", want == before ? 0 : 1, () -> x.dip(1));
                due("seed " + before + " to " + sum[0], want, () -> x.octave(0, 3));
                due("no other seed", 5, () -> x.octave(1, 3));
                due("once more it stays", 0, () -> x.dip(1));
                due("counted in all", want == before ? 0 : 1, () -> x.count(13));
            }
        }
    }

    private static void driftsByTheRemainder() {
        String[][] sums = {{"0", "0"}, {"1", "1"}, {"-1", "-1"}, {"6", "6"}, {"7", "7"}, {"8", "8"}, {"-6", "-6"},
            {"-7", "-7"}, {"-8", "-8"}, {"23", "23"}, {"24", "24"}, {"25", "25"}, {"-24", "-24"}, {"48", "48"},
            {"999999", "999999"}, {"-999999", "-999999"}, {MAX, String.valueOf(MOST)}, {MIN, String.valueOf(LEAST)},
            {MAX + "-1", String.valueOf(MOST - 1)}, {MAX + "+1", String.valueOf(LEAST)}};
        for (String[] sum : sums) {
            for (int before : new int[] {0, 1, 3, 6, 23}) {
                for (int down = 0; down < 2; down++) {
                    int lines = down == 0 ? 24 : 7;
                    int first = before % lines;
                    int want = (int) Math.floorMod(first + Long.parseLong(sum[1]), (long) lines);
                    MarbledPaper x = taught("paper 24 by 7; drift " + (down == 0 ? "across" : "down") + " by "
                        + sum[0] + ";");
                    x.drift(down == 0 ? first : 2, down == 0 ? 2 : first);
                    String what = (down == 0 ? "across " : "down ") + first + " by " + sum[0];
                    int way = down;
                    due("carried out " + what, want == first ? 0 : 1, () -> x.dip(1));
                    due("drift " + what, want, () -> x.count(11 + way));
                    due("not the other way", 2, () -> x.count(12 - way));
                    due("counted in all", want == first ? 0 : 1, () -> x.count(13));
                }
            }
        }
    }

    private static void whatCountsAsCarriedOut() {
        MarbledPaper none = taught("drift across by 1 when 1 = 2; drift down by 0; drift down by 12; drift across by -16;");
        due("no test that holds, and no other number", 0, () -> none.dip(20));
        due("the dips are counted", 20, () -> none.count(0));
        // The gradients of the seed 8 are those of the seed 0, but it is another number.
        MarbledPaper seed = taught("octave o across 1 down 1 strength 9 seed 0; seed o to seed o + 8 when dip < 2;");
        int height = seed.height(3, 3);
        due("another seed with the same sheet", 2, () -> seed.dip(20));
        due("its number", 16, () -> seed.octave(0, 3));
        due("the same sheet", height, () -> seed.height(3, 3));
        // A pull that moves nothing, of a comb whose teeth move nothing.
        MarbledPaper pull = taught("paper 4 by 4; comb c across teeth 4 pull 0; pull c to dip when dip > 0;");
        due("another pull with the same sheet", 16, () -> pull.dip(20));
        due("moves of it", 0, () -> pull.moves(0, 2));
        // There and back again in one dip: both are carried out.
        MarbledPaper back = taught("drift across by 5; drift across by -5; drift across by 16;");
        due("there and back", 2, () -> back.dip(1));
        due("as before", 0, () -> back.count(11));
        back.drift(3, 3);
        due("a drift by hand is not counted", 2, () -> back.count(13));
        due("twenty dips", 40, () -> back.dip(20));
        due("all of them", 42, () -> back.count(13));
        MarbledPaper many = taught("drift across by 1;".repeat(20));
        due("twenty orders", 20, () -> many.dip(1));
        due("twenty orders twenty times", 400, () -> many.dip(20));
        due("all of these", 420, () -> many.count(13));
    }

    /** The second order's test goes by what the first one has changed, and its sum does. */
    private static void ordersGoByThoseAhead() {
        String told = STRIPES + "comb c across teeth 1 pull 0; ink a from 520; ";
        String[][] pairs = {
            {"drift across by 3;", "edge a"}, {"drift across by 3;", "height(0, 3) = 540"},
            {"drift across by 1;", "height(1, 0) = 500"}, {"drift across by 2;", "height(3, 1) = 540"},
            {"pull c to 6 when 1 = 1;", "edge a"}, {"pull c to 2 when 1 = 1;", "height(2, 1) = 540"},
            {"pull c to 20 when 1 = 1;", "pull c = 16"}, {"pull c to -1 + dip when 1 = 1; drift across by 1;", "pull c = 0"},
            {"seed o to 2 when 1 = 1;", "height(0, 1) = 540"}, {"seed o to 2 when 1 = 1;", "edge a"},
            {"seed o to 1 when 1 = 1;", "share a = 5"}, {"seed o to 1000 when 1 = 1;", "seed o = 999"},
            {"seed o to 2 when 1 = 1; drift down by 1;", "height(2, 2) = 540"},
            {"drift across by 4; drift across by 0;", "not edge a and height(1, 1) = 540"}};
        for (String[] pair : pairs) {
            String list = told + pair[0] + "drift down by 2 when " + pair[1] + ";";
            MarbledPaper x = taught(list);
            x.dip(1);
            int ahead = pair[0].contains("down by 1") ? 1 : 0;
            due("it holds behind the one ahead: " + list, ahead + 2, () -> x.count(12));
            boolean before = pair[0].contains("across by 4") || pair[1].equals("pull c = 0");
            MarbledPaper y = taught(told + "drift down by 2 when " + pair[1] + ";" + pair[0]);
            y.dip(1);
            due("and not ahead of it: " + list, ahead + (before ? 2 : 0), () -> y.count(12));
        }
        MarbledPaper z = taught(told + "drift across by 3; seed o to height(0, 0) when edge a; "
            + "pull c to seed o - 535 when 1 = 1; "
            + "drift down by pull c;");
        due("sums go by those ahead", 4, () -> z.dip(1));
        due("the seed", 540, () -> z.octave(0, 3));
        due("the pull", 5, () -> z.comb(0, 2));
        due("the drift down", 1, () -> z.count(12));
    }

    /** The last order that there can be is like all others. */
    private static void theTwentiethOrder() {
        String told = STRIPES + "comb c across teeth 1 pull 0; ink a from 520; " + "drift down by 0;".repeat(18)
            + "seed o to 1 when 1 = 1; ";
        MarbledPaper pull = taught(told + "pull c to 9 when seed o = 1;");
        due("a pull", 2, () -> pull.dip(1));
        due("it is done", 9, () -> pull.comb(0, 2));
        MarbledPaper seed = taught(told + "seed o to seed o + 76 when 1 = 1;");
        due("a seed", 2, () -> seed.dip(1));
        due("it is set", 77, () -> seed.octave(0, 3));
        MarbledPaper share = taught(told + "drift across by share a;");
        due("a drift", 2, () -> share.dip(1));
        due("by the share of that moment, 5", 1, () -> share.count(11));
        MarbledPaper down = taught(told + "drift down by share a when edge a and height(1, 1) = 554;");
        due("a drift down", 2, () -> down.dip(1));
        due("by what it tests", 0, () -> down.count(11));
        due("and down", 1, () -> down.count(12));
        MarbledPaper none = taught(told + "drift across by 1 when 1 = 2;");
        due("a test that does not hold", 1, () -> none.dip(1));
    }

    private static void shareIsOfJustThisInk() {
        MarbledPaper first = taught("paper 4 by 24; octave o across 1 down 1 strength 1 seed 0; ink a from 501; "
            + "drift down by share a;");
        due("the first call behind teach", 0, () -> first.dip(1));
        due("24 spots of 24 rows", 24, () -> first.share(1));
        MarbledPaper alone = taught(STRIPES + "ink a from 520; drift across by share a; seed o to 1 when 1 = 1; "
            + "drift down by share a;");
        due("4 of 4 columns, another seed, and 5 of 4 rows", 2, () -> alone.dip(1));
        due("the share of its turn", 1, () -> alone.count(12));
        MarbledPaper x = taught(STRIPES + "ink a from 460; ink b from 500; ink c from 540; ink d from 541; "
            + "seed o to share a + 10 * share b + 100 * share c + share d when 1 = 1;");
        x.dip(1);
        due("4 of a, 8 of b, 4 of c, none of d", 484, () -> x.octave(0, 3));
        MarbledPaper all = taught("paper 24 by 24; octave o across 1 down 1 strength 1 seed 0; ink a from 0; "
            + "seed o to share a when share a = 576;");
        due("all have the ink", 1, () -> all.dip(1));
        due("as many as the spots", 576, () -> all.octave(0, 3));
    }

    private static void edgeIsOfTheFirstColumn() {
        for (int drift = 0; drift < 4; drift++) {
            MarbledPaper x = taught(STRIPES + "ink a from 460; ink b from 520; drift down by 1 when edge b; "
                + "drift down by 2 when edge a;");
            x.drift(drift, 0);
            due("one of the two holds", 1, () -> x.dip(1));
            due("ink b is in the column " + (1 + drift) % 4, drift == 3 ? 1 : 2, () -> x.count(12));
        }
        // One row alone has ink b, whichever it is.
        for (int rows : new int[] {4, 24}) {
            String list = "paper 4 by " + rows + "; octave o across 1 down 1 strength 9 seed 2; ";
            PlainPaper plain = Checks.plain(list);
            int top = 0;
            for (int row = 0; row < rows; row++) {
                top = Math.max(top, plain.height(0, row));
            }
            for (int drift = 0; drift < rows; drift++) {
                MarbledPaper x = taught(list + "ink a from 0; ink b from " + top + "; drift across by 1 when edge b;");
                x.drift(0, drift);
                due("some row of " + rows + ", drifted " + drift, 1, () -> x.dip(1));
                MarbledPaper y = taught(list + "ink a from 0; ink b from " + (top + 1) + "; drift across by 1 when edge b;");
                y.drift(0, drift);
                due("no row of " + rows + ", drifted " + drift, 0, () -> y.dip(1));
            }
        }
    }

    private static void dipIsTheNumberOfDips() {
        MarbledPaper x = taught("octave o across 1 down 1 strength 1 seed 999; seed o to dip when dip >= 0;");
        for (int dip = 0; dip < 30; dip++) {
            int n = dip;
            x.dip(1);
            due("dip is the number of dips ahead of this one", n, () -> x.octave(0, 3));
        }
        due("foresee goes on from there", 30, () -> x.count(0));
        due("one order each dip", 30, () -> x.count(13));
        MarbledPaper y = taught("drift across by 1 when dip = 0; drift down by 1 when dip = 1;");
        due("it is the same for all orders of a dip", 1, () -> y.dip(1));
        due("and is greater in the next", 1, () -> y.dip(1));
        due("both were carried out", 17, () -> y.drift(0, 0));
    }
}
