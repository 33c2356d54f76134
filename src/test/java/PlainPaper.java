import java.util.ArrayList;
import java.util.Arrays;
import java.util.HashMap;
import java.util.HashSet;
import java.util.List;
import java.util.Map;
import java.util.Set;

/**
 * The document once more, in other ways: tokens by regular text, error 1 by an Earley recogniser
 * over the grammar as it is printed, sums as trees, and everything reckoned anew at each question.
 */
final class PlainPaper {
    record Token(String kind, String text, int start) {
    }

    record Octave(int across, int down, int strength) {
    }

    record Comb(boolean down, int teeth) {
    }

    record Order(String kind, int target, Sum sum, Sum test) {
    }

    /** A sum, or a test, which is 1 where it holds. */
    interface Sum {
        int of(PlainPaper paper);
    }

    private static final Set<String> KEYWORDS = Set.of("paper", "by", "octave", "across", "down", "strength", "seed",
            "comb", "teeth", "pull", "ink", "from", "drift", "to", "when", "dip", "share", "height", "edge", "not",
            "and", "or", "min", "max");
    private static final int[][] GRADIENTS = {
        {3, 0}, {2, 2}, {0, 3}, {-2, 2}, {-3, 0}, {-2, -2}, {0, -3}, {2, -2}};
    private static final Map<String, List<String[]>> GRAMMAR = grammar();

    private byte[] tape = new byte[0];
    private int errorAt = -1;

    private int columns = 16;
    private int rows = 12;
    private List<Octave> octaves = new ArrayList<>();
    private List<Comb> combs = new ArrayList<>();
    private List<Integer> levels = new ArrayList<>();
    private List<Order> orders = new ArrayList<>();
    private int[] seeds = new int[0];
    private int[] pulls = new int[0];
    private int driftAcross;
    private int driftDown;
    private int dips;
    private int carried;

    // ---- the tape

    int feed(int a, int b, int c, int d, int e) {
        if (tape.length + 20 > 2000) {
            throw new IllegalStateException();
        }
        int length = tape.length;
        tape = Arrays.copyOf(tape, length + 20);
        int[] five = {a, b, c, d, e};
        for (int k = 0; k < 20; k++) {
            tape[length + k] = (byte) (five[k / 4] >>> (24 - 8 * (k % 4)));
        }
        return tape.length;
    }

    int trim(int n) {
        if (n < 0 || n > tape.length) {
            throw new IllegalArgumentException();
        }
        tape = Arrays.copyOf(tape, n);
        return n;
    }

    // ---- reading

    private static List<Token> tokens(byte[] tape) {
        StringBuilder text = new StringBuilder();
        for (byte b : tape) {
            text.append((char) (b & 255));
        }
        List<Token> found = new ArrayList<>();
        var pattern = java.util.regex.Pattern.compile("[a-z][a-z0-9]*|[0-9]+|<=|>=|[()\\[\\];,+\\-*/<>=]");
        var matcher = pattern.matcher(text);
        int place = 0;
        while (true) {
            while (place < text.length() && (text.charAt(place) == ' ' || text.charAt(place) == '\n')) {
                place++;
            }
            if (place == text.length()) {
                found.add(new Token("end", "", place));
                return found;
            }
            String token = matcher.find(place) && matcher.start() == place ? matcher.group() : "";
            boolean word = !token.isEmpty() && Character.isLetter(token.charAt(0));
            boolean number = !token.isEmpty() && Character.isDigit(token.charAt(0));
            if (token.isEmpty() || found.size() == 400 || word && token.length() > 10 || number && token.length() > 6) {
                found.add(new Token("bad", "", place));
                return found;
            }
            String kind = word && !KEYWORDS.contains(token) ? "name" : number ? "number" : token;
            found.add(new Token(kind, token, place));
            place += token.length();
        }
    }

    /** The grammar, a rule for each depth; upper-case words stand for rules. */
    private static Map<String, List<String[]>> grammar() {
        Map<String, List<String[]>> rules = new HashMap<>();
        rule(rules, "LIST", "", "LIST LINE ;");
        rule(rules, "LINE", "paper number by number",
            "octave name across number down number strength number seed number",
            "comb name WAY teeth number pull number", "ink name from number",
            "pull name to SUM0 when TEST0", "drift WAY by SUM0", "drift WAY by SUM0 when TEST0",
            "seed name to SUM0 when TEST0");
        rule(rules, "WAY", "across", "down");
        for (int d = 0; d <= 8; d++) {
            String s = String.valueOf(d);
            String t = String.valueOf(d + 1);
            rule(rules, "TEST" + s, "BOTH" + s, "TEST" + s + " or BOTH" + s);
            rule(rules, "BOTH" + s, "SINGLE" + s, "BOTH" + s + " and SINGLE" + s);
            rule(rules, "SINGLE" + s, "edge name");
            for (String sign : List.of("<", ">", "=", "<=", ">=")) {
                rule(rules, "SINGLE" + s, "SUM" + s + " " + sign + " SUM" + s);
            }
            rule(rules, "SUM" + s, "PRODUCT" + s, "SUM" + s + " + PRODUCT" + s, "SUM" + s + " - PRODUCT" + s);
            rule(rules, "PRODUCT" + s, "VALUE" + s, "PRODUCT" + s + " * VALUE" + s, "PRODUCT" + s + " / VALUE" + s);
            rule(rules, "VALUE" + s, "number", "dip", "pull name", "share name", "seed name");
            if (d < 8) {
                rule(rules, "SINGLE" + s, "not SINGLE" + t, "[ TEST" + t + " ]");
                rule(rules, "VALUE" + s, "height ( SUM" + t + " , SUM" + t + " )", "- VALUE" + t, "( SUM" + t + " )",
                    "min ( SUM" + t + " , SUM" + t + " )", "max ( SUM" + t + " , SUM" + t + " )");
            } else {
                // It is the ( that is too deep, not the keyword ahead of it.
                rule(rules, "VALUE" + s, "height never", "min never", "max never");
            }
        }
        return rules;
    }

    private static void rule(Map<String, List<String[]>> rules, String left, String... rights) {
        for (String right : rights) {
            rules.computeIfAbsent(left, k -> new ArrayList<>()).add(right.isEmpty() ? new String[0] : right.split(" "));
        }
    }

    record Item(String left, String[] right, int dot, int origin) {
        String next() {
            return dot < right.length ? right[dot] : "";
        }

        Item moved() {
            return new Item(left, right, dot + 1, origin);
        }
    }

    /** The first token that does not go on with a list, or null. */
    private static Token firstWrong(List<Token> tokens) {
        List<Set<Item>> sets = new ArrayList<>();
        Set<Item> set = new HashSet<>();
        for (String[] right : GRAMMAR.get("LIST")) {
            set.add(new Item("LIST", right, 0, 0));
        }
        for (Token token : tokens) {
            complete(sets, set);
            sets.add(set);
            if (token.kind().equals("end")) {
                for (Item item : set) {
                    if (item.left().equals("LIST") && item.origin() == 0 && item.next().isEmpty()) {
                        return null;
                    }
                }
                return token;
            }
            Set<Item> next = new HashSet<>();
            for (Item item : set) {
                if (item.next().equals(token.kind())) {
                    next.add(item.moved());
                }
            }
            if (next.isEmpty()) {
                return token;
            }
            set = next;
        }
        throw new AssertionError();
    }

    private static void complete(List<Set<Item>> sets, Set<Item> set) {
        int here = sets.size();
        List<Item> todo = new ArrayList<>(set);
        Set<String> empty = Set.of("LIST");
        for (int k = 0; k < todo.size(); k++) {
            Item item = todo.get(k);
            List<Item> more = new ArrayList<>();
            if (item.next().isEmpty()) {
                for (Item waiting : item.origin() == here ? new ArrayList<>(set) : sets.get(item.origin())) {
                    if (waiting.next().equals(item.left())) {
                        more.add(waiting.moved());
                    }
                }
            } else if (GRAMMAR.containsKey(item.next())) {
                for (String[] right : GRAMMAR.get(item.next())) {
                    more.add(new Item(item.next(), right, 0, here));
                }
                if (empty.contains(item.next())) {
                    more.add(item.moved());
                }
            }
            for (Item one : more) {
                if (set.add(one)) {
                    todo.add(one);
                }
            }
        }
    }

    int teach() {
        List<Token> tokens = tokens(tape);
        tape = new byte[0];
        Token wrong = firstWrong(tokens);
        if (wrong != null) {
            errorAt = wrong.start();
            return 1;
        }
        List<List<Token>> lines = new ArrayList<>();
        List<Token> line = new ArrayList<>();
        for (Token token : tokens) {
            line.add(token);
            if (token.kind().equals(";")) {
                lines.add(line);
                line = new ArrayList<>();
            }
        }
        return new Lines(lines).learn();
    }

    /** Thrown at the first error of 2 to 5. */
    static final class Fault extends RuntimeException {
        private static final long serialVersionUID = 1;
        final int error;
        final int place;

        Fault(int error, Token token) {
            this.error = error;
            this.place = token.start();
        }
    }

    /** Lines without error 1. */
    final class Lines {
        private final List<List<Token>> lines;
        private final List<String> octaveNames = new ArrayList<>();
        private final List<String> combNames = new ArrayList<>();
        private final List<String> inkNames = new ArrayList<>();
        private final List<Octave> newOctaves = new ArrayList<>();
        private final List<Comb> newCombs = new ArrayList<>();
        private final List<Integer> newLevels = new ArrayList<>();
        private final List<Order> newOrders = new ArrayList<>();
        private final List<Integer> newSeeds = new ArrayList<>();
        private final List<Integer> newPulls = new ArrayList<>();
        private int newColumns = 16;
        private int newRows = 12;

        Lines(List<List<Token>> lines) {
            this.lines = lines;
        }

        int learn() {
            try {
                for (List<Token> line : lines) {
                    learnLine(line);
                }
            } catch (Fault fault) {
                errorAt = fault.place;
                return fault.error;
            }
            errorAt = -1;
            columns = newColumns;
            rows = newRows;
            octaves = newOctaves;
            combs = newCombs;
            levels = newLevels;
            orders = newOrders;
            seeds = newSeeds.stream().mapToInt(x -> x).toArray();
            pulls = newPulls.stream().mapToInt(x -> x).toArray();
            driftAcross = 0;
            driftDown = 0;
            dips = 0;
            carried = 0;
            return 0;
        }

        private void learnLine(List<Token> line) {
            switch (line.get(0).kind()) {
                case "paper" -> {
                    newColumns = number(line.get(1), 4, 24);
                    newRows = number(line.get(3), 4, 24);
                }
                case "octave" -> {
                    newName(octaveNames, line.get(1), 4);
                    newOctaves.add(new Octave(number(line.get(3), 1, 8), number(line.get(5), 1, 8),
                        number(line.get(7), 1, 9)));
                    newSeeds.add(number(line.get(9), 0, 999));
                }
                case "comb" -> {
                    newName(combNames, line.get(1), 4);
                    newCombs.add(new Comb(line.get(2).kind().equals("down"), number(line.get(4), 1, 8)));
                    newPulls.add(number(line.get(6), 0, 16));
                }
                case "ink" -> {
                    newName(inkNames, line.get(1), 5);
                    int level = number(line.get(3), 0, 999);
                    if (!newLevels.isEmpty() && level <= newLevels.get(newLevels.size() - 1)) {
                        throw new Fault(5, line.get(3));
                    }
                    newLevels.add(level);
                }
                default -> learnOrder(line);
            }
        }

        private int number(Token token, int least, int most) {
            int n = Integer.parseInt(token.text());
            if (n < least || n > most) {
                throw new Fault(5, token);
            }
            return n;
        }

        private void newName(List<String> names, Token token, int most) {
            if (names.contains(token.text())) {
                throw new Fault(2, token);
            }
            if (names.size() == most) {
                throw new Fault(4, token);
            }
            names.add(token.text());
        }

        private void learnOrder(List<Token> line) {
            if (newOrders.size() == 20) {
                throw new Fault(4, line.get(0));
            }
            for (int k = 0; k < line.size(); k++) {
                List<String> names = switch (line.get(k).kind()) {
                    case "pull" -> combNames;
                    case "seed" -> octaveNames;
                    case "share", "edge" -> inkNames;
                    default -> null;
                };
                if (names != null && !names.contains(line.get(k + 1).text())) {
                    throw new Fault(3, line.get(k + 1));
                }
            }
            String kind = line.get(0).kind();
            String second = line.get(1).text();
            int target = kind.equals("pull") ? combNames.indexOf(second)
                : kind.equals("seed") ? octaveNames.indexOf(second) : second.equals("down") ? 1 : 0;
            Trees trees = new Trees(line, 3);
            Sum sum = trees.sum();
            Sum test = trees.found("when") ? trees.test() : paper -> 1;
            newOrders.add(new Order(kind, target, sum, test));
        }

        /** Sums and tests of a line as trees. */
        final class Trees {
            private final List<Token> line;
            private int at;

            Trees(List<Token> line, int at) {
                this.line = line;
                this.at = at;
            }

            boolean found(String kind) {
                boolean is = line.get(at).kind().equals(kind);
                if (is) {
                    at++;
                }
                return is;
            }

            Sum test() {
                Sum left = both();
                while (found("or")) {
                    Sum a = left;
                    Sum b = both();
                    left = p -> a.of(p) == 1 | b.of(p) == 1 ? 1 : 0;
                }
                return left;
            }

            Sum both() {
                Sum left = single();
                while (found("and")) {
                    Sum a = left;
                    Sum b = single();
                    left = p -> a.of(p) == 1 & b.of(p) == 1 ? 1 : 0;
                }
                return left;
            }

            Sum single() {
                if (found("not")) {
                    Sum a = single();
                    return p -> a.of(p) == 1 ? 0 : 1;
                }
                if (found("[")) {
                    Sum a = test();
                    found("]");
                    return a;
                }
                if (found("edge")) {
                    int ink = inkNames.indexOf(line.get(at++).text()) + 1;
                    return p -> {
                        boolean is = false;
                        for (int row = 0; row < p.rows; row++) {
                            is |= p.ink(0, row) == ink;
                        }
                        return is ? 1 : 0;
                    };
                }
                Sum a = sum();
                String sign = line.get(at++).kind();
                Sum b = sum();
                return p -> {
                    int order = Integer.compare(a.of(p), b.of(p));
                    return switch (sign) {
                        case "<" -> order < 0;
                        case ">" -> order > 0;
                        case "=" -> order == 0;
                        case "<=" -> order <= 0;
                        default -> order >= 0;
                    } ? 1 : 0;
                };
            }

            Sum sum() {
                Sum left = product();
                while (true) {
                    Sum a = left;
                    if (found("+")) {
                        Sum b = product();
                        left = p -> (int) ((long) a.of(p) + b.of(p));
                    } else if (found("-")) {
                        Sum b = product();
                        left = p -> (int) ((long) a.of(p) - b.of(p));
                    } else {
                        return left;
                    }
                }
            }

            Sum product() {
                Sum left = value();
                while (true) {
                    Sum a = left;
                    if (found("*")) {
                        Sum b = value();
                        left = p -> (int) ((long) a.of(p) * b.of(p));
                    } else if (found("/")) {
                        Sum b = value();
                        left = p -> {
                            long x = a.of(p);
                            long y = b.of(p);
                            return y == 0 ? 0 : (int) (x / y);
                        };
                    } else {
                        return left;
                    }
                }
            }

            Sum value() {
                Token token = line.get(at++);
                switch (token.kind()) {
                    case "number" -> {
                        int n = Integer.parseInt(token.text());
                        return p -> n;
                    }
                    case "dip" -> {
                        return p -> p.dips;
                    }
                    case "pull" -> {
                        int comb = combNames.indexOf(line.get(at++).text());
                        return p -> p.pulls[comb];
                    }
                    case "share" -> {
                        int ink = inkNames.indexOf(line.get(at++).text()) + 1;
                        return p -> p.share(ink);
                    }
                    case "seed" -> {
                        int octave = octaveNames.indexOf(line.get(at++).text());
                        return p -> p.seeds[octave];
                    }
                    case "-" -> {
                        Sum a = value();
                        return p -> (int) -(long) a.of(p);
                    }
                    case "(" -> {
                        Sum a = sum();
                        found(")");
                        return a;
                    }
                    default -> {
                        found("(");
                        Sum a = sum();
                        found(",");
                        Sum b = sum();
                        found(")");
                        return switch (token.kind()) {
                            case "min" -> p -> Math.min(a.of(p), b.of(p));
                            case "max" -> p -> Math.max(a.of(p), b.of(p));
                            default -> p -> p.height(a.of(p), b.of(p));
                        };
                    }
                }
            }
        }
    }

    int errorAt() {
        return errorAt;
    }

    // ---- spots

    private static int mod(long n, int of) {
        return (int) (((n % of) + of) % of);
    }

    int gradient(int octave, int i, int j) {
        Octave o = octaves.get(octave);
        if (i < 0 || i > 8 || j < 0 || j > 8) {
            throw new IndexOutOfBoundsException();
        }
        int a = mod(i, o.across());
        int b = mod(j, o.down());
        return mod(seeds[octave] + 3 * a * a + 5 * b + a * b, 8);
    }

    int value(int octave, int column, int row) {
        Octave o = octaves.get(octave);
        int x = 256 * mod(column, columns) * o.across() / columns;
        int y = 256 * mod(row, rows) * o.down() / rows;
        int[][] pull = new int[2][2];
        int f = x % 256;
        int g = y % 256;
        for (int a = 0; a < 2; a++) {
            for (int b = 0; b < 2; b++) {
                int[] way = GRADIENTS[gradient(octave, x / 256 + a, y / 256 + b)];
                pull[a][b] = way[0] * (f - 256 * a) + way[1] * (g - 256 * b);
            }
        }
        int u = f * f * (768 - 2 * f) / 65536;
        int v = g * g * (768 - 2 * g) / 65536;
        int first = pull[0][0] + (pull[1][0] - pull[0][0]) * u / 256;
        int second = pull[0][1] + (pull[1][1] - pull[0][1]) * u / 256;
        return first + (second - first) * v / 256;
    }

    int moves(int comb, int line) {
        Comb c = combs.get(comb);
        int lines = c.down() ? columns : rows;
        int t = mod(mod(line, lines) * c.teeth(), lines);
        return pulls[comb] * 2 * Math.min(t, lines - t) / lines;
    }

    int whence(int column, int row) {
        int x = column;
        int y = row;
        x = mod(x, columns);
        y = mod(y, rows);
        for (int comb = combs.size() - 1; comb >= 0; comb--) {
            if (combs.get(comb).down()) {
                y = mod(y - moves(comb, x), rows);
            } else {
                x = mod(x - moves(comb, y), columns);
            }
        }
        return mod(y - driftDown, rows) * columns + mod(x - driftAcross, columns);
    }

    int height(int column, int row) {
        int from = whence(column, row);
        int sum = 0;
        for (int octave = 0; octave < octaves.size(); octave++) {
            sum += octaves.get(octave).strength() * value(octave, from % columns, from / columns);
        }
        return Math.max(0, Math.min(999, 500 + sum / 16));
    }

    int ink(int column, int row) {
        int height = height(column, row);
        return (int) levels.stream().filter(level -> level <= height).count();
    }

    private int[] sheet() {
        int[] inks = new int[columns * rows];
        for (int k = 0; k < inks.length; k++) {
            inks[k] = ink(k % columns, k / columns);
        }
        return inks;
    }

    /** For each spot the smallest number of a spot of its patch. */
    private int[] patches() {
        int[] inks = sheet();
        int[] patch = new int[inks.length];
        for (int k = 0; k < patch.length; k++) {
            patch[k] = k;
        }
        boolean changed = true;
        while (changed) {
            changed = false;
            for (int k = 0; k < patch.length; k++) {
                for (int way = 0; way < 4; way++) {
                    int x = mod(k % columns + new int[] {1, -1, 0, 0}[way], columns);
                    int y = mod(k / columns + new int[] {0, 0, 1, -1}[way], rows);
                    int other = y * columns + x;
                    if (inks[other] == inks[k] && patch[other] < patch[k]) {
                        patch[k] = patch[other];
                        changed = true;
                    }
                }
            }
        }
        return patch;
    }

    int patch(int column, int row) {
        int[] patches = patches();
        int mine = patches[mod(row, rows) * columns + mod(column, columns)];
        return (int) Arrays.stream(patches).filter(p -> p == mine).count();
    }

    private int patchCount() {
        return (int) Arrays.stream(patches()).distinct().count();
    }

    private int contours() {
        int[] inks = sheet();
        int found = 0;
        for (int y = 0; y < rows; y++) {
            for (int x = 0; x < columns; x++) {
                found += inks[y * columns + x] != inks[y * columns + (x + 1) % columns] ? 1 : 0;
                found += inks[y * columns + x] != inks[(y + 1) % rows * columns + x] ? 1 : 0;
            }
        }
        return found;
    }

    private int[] heights() {
        int[] heights = new int[columns * rows];
        for (int k = 0; k < heights.length; k++) {
            heights[k] = height(k % columns, k / columns);
        }
        return heights;
    }

    int share(int ink) {
        if (ink < 0 || ink > levels.size()) {
            throw new IndexOutOfBoundsException();
        }
        return (int) Arrays.stream(sheet()).filter(i -> i == ink).count();
    }

    int count(int what) {
        return switch (what) {
            case 0 -> dips;
            case 1 -> columns;
            case 2 -> rows;
            case 3 -> octaves.size();
            case 4 -> combs.size();
            case 5 -> levels.size();
            case 6 -> orders.size();
            case 7 -> patchCount();
            case 8 -> contours();
            case 9 -> Arrays.stream(heights()).min().getAsInt();
            case 10 -> Arrays.stream(heights()).max().getAsInt();
            case 11 -> driftAcross;
            case 12 -> driftDown;
            case 13 -> carried;
            case 14 -> tape.length;
            default -> throw new IndexOutOfBoundsException();
        };
    }

    int octave(int octave, int what) {
        Octave o = octaves.get(octave);
        return switch (what) {
            case 0 -> o.across();
            case 1 -> o.down();
            case 2 -> o.strength();
            case 3 -> seeds[octave];
            default -> throw new IndexOutOfBoundsException();
        };
    }

    int comb(int comb, int what) {
        Comb c = combs.get(comb);
        return switch (what) {
            case 0 -> c.down() ? 1 : 0;
            case 1 -> c.teeth();
            case 2 -> pulls[comb];
            default -> throw new IndexOutOfBoundsException();
        };
    }

    // ---- by hand

    int setPull(int comb, int pull) {
        combs.get(comb);
        if (pull < 0 || pull > 16) {
            throw new IllegalArgumentException();
        }
        int before = pulls[comb];
        pulls[comb] = pull;
        return before;
    }

    int setSeed(int octave, int seed) {
        octaves.get(octave);
        if (seed < 0 || seed > 999) {
            throw new IllegalArgumentException();
        }
        int before = seeds[octave];
        seeds[octave] = seed;
        return before;
    }

    int drift(int across, int down) {
        if (Math.abs((long) across) > 999 || Math.abs((long) down) > 999) {
            throw new IllegalArgumentException();
        }
        driftAcross = mod(driftAcross + across, columns);
        driftDown = mod(driftDown + down, rows);
        return driftDown * columns + driftAcross;
    }

    // ---- dips

    private void dipOnce() {
        for (Order order : orders) {
            if (order.test().of(this) == 0) {
                continue;
            }
            int sum = order.sum().of(this);
            List<Integer> before = changing();
            switch (order.kind()) {
                case "pull" -> pulls[order.target()] = Math.max(0, Math.min(16, sum));
                case "seed" -> seeds[order.target()] = Math.max(0, Math.min(999, sum));
                default -> {
                    if (order.target() == 0) {
                        driftAcross = mod((long) driftAcross + sum, columns);
                    } else {
                        driftDown = mod((long) driftDown + sum, rows);
                    }
                }
            }
            carried += changing().equals(before) ? 0 : 1;
        }
        dips++;
    }

    private List<Integer> changing() {
        List<Integer> all = new ArrayList<>(List.of(driftAcross, driftDown));
        Arrays.stream(seeds).forEach(all::add);
        Arrays.stream(pulls).forEach(all::add);
        return all;
    }

    private PlainPaper dipped(int times) {
        PlainPaper copy = new PlainPaper();
        copy.columns = columns;
        copy.rows = rows;
        copy.octaves = octaves;
        copy.combs = combs;
        copy.levels = levels;
        copy.orders = orders;
        copy.seeds = seeds.clone();
        copy.pulls = pulls.clone();
        copy.driftAcross = driftAcross;
        copy.driftDown = driftDown;
        copy.dips = dips;
        copy.carried = carried;
        for (int n = 0; n < times; n++) {
            copy.dipOnce();
        }
        return copy;
    }

    int dip(int times) {
        if (times < 1 || times > 20) {
            throw new IllegalArgumentException();
        }
        int before = carried;
        for (int n = 0; n < times; n++) {
            dipOnce();
        }
        return carried - before;
    }

    int foresee(int times, int what) {
        if (times < 1 || times > 20) {
            throw new IllegalArgumentException();
        }
        if (what < 7 || what > 13) {
            throw new IndexOutOfBoundsException();
        }
        return dipped(times).count(what);
    }

    int until(int column, int row, int ink) {
        if (ink < 0 || ink > levels.size()) {
            throw new IndexOutOfBoundsException();
        }
        PlainPaper copy = dipped(0);
        for (int n = 0; n <= 20; n++) {
            if (copy.ink(column, row) == ink) {
                return n;
            }
            copy.dipOnce();
        }
        return -1;
    }

    int advise(int comb) {
        combs.get(comb);
        int best = -1;
        int fewest = Integer.MAX_VALUE;
        for (int pull = 16; pull >= 0; pull--) {
            PlainPaper copy = dipped(0);
            copy.pulls[comb] = pull;
            int patches = copy.patchCount();
            if (patches <= fewest) {
                fewest = patches;
                best = pull;
            }
        }
        return best;
    }

    double mean() {
        return Arrays.stream(heights()).average().getAsDouble();
    }

    long digest() {
        long d = 937;
        for (int what = 0; what < 15; what++) {
            d = d * 31 + count(what);
        }
        for (int octave = 0; octave < octaves.size(); octave++) {
            for (int what = 0; what < 4; what++) {
                d = d * 31 + octave(octave, what);
            }
        }
        for (int comb = 0; comb < combs.size(); comb++) {
            for (int what = 0; what < 3; what++) {
                d = d * 31 + comb(comb, what);
            }
        }
        for (int ink = 0; ink <= levels.size(); ink++) {
            d = d * 31 + share(ink);
        }
        for (int height : heights()) {
            d = d * 31 + height;
        }
        return d;
    }
}
