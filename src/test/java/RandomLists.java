import java.util.ArrayList;
import java.util.List;
import java.util.Random;

/** Makes lists by chance: most of them right, some of them spoilt somewhere. */
final class RandomLists {
    private static final String[] PIECES = {"paper", "by", "octave", "across", "down", "strength", "seed", "comb",
        "teeth", "pull", "ink", "from", "drift", "to", "when", "dip", "share", "height", "edge", "not", "and", "or",
        "min", "max", "(", ")", "[", "]", ";", ",", "+", "-", "*", "/", "<", ">", "=", "<=", ">=", "5", "1000",
        "123456", "1234567", "abcdefghij", "abcdefghijk", "x", "a1", "A", ".", "\t", "\u00e9", "\r", "_"};

    private final Random random;
    private List<String> octaves;
    private List<String> combs;
    private List<String> inks;
    private int orders;
    private int least;
    private int instructions;
    private boolean careless;

    RandomLists(long seed) {
        random = new Random(seed);
    }

    int below(int n) {
        return random.nextInt(n);
    }

    private boolean chance(int of) {
        return random.nextInt(of) == 0;
    }

    private String number(int from, int to) {
        int n = from + random.nextInt(to - from + 1);
        if (slip()) {
            n = random.nextBoolean() ? to + 1 + random.nextInt(2) : Math.max(0, from - 1);
        }
        return chance(12) ? String.format("%04d", n) : String.valueOf(n);
    }

    /** Whether something shall be wrong here. */
    private boolean slip() {
        return careless && chance(25);
    }

    private String name() {
        StringBuilder name = new StringBuilder();
        int length = chance(8) ? 10 : 1 + random.nextInt(3);
        name.append("abcxyz".charAt(random.nextInt(6)));
        while (name.length() < length) {
            name.append("abcz09".charAt(random.nextInt(6)));
        }
        return name.toString();
    }

    private String newName(List<String> names) {
        String name = name();
        while (names.contains(name)) {
            name = name();
        }
        if (slip() && !names.isEmpty()) {
            name = any(names);
        }
        names.add(name);
        return name;
    }

    private String any(List<String> names) {
        if (slip()) {
            return chance(3) ? name() : any(random.nextBoolean() ? octaves : combs);
        }
        return names.isEmpty() ? name() : names.get(random.nextInt(names.size()));
    }

    String list() {
        octaves = new ArrayList<>();
        combs = new ArrayList<>();
        inks = new ArrayList<>();
        orders = 0;
        least = 0;
        careless = chance(3);
        int more = careless ? 1 : 0;
        List<String> pieces = new ArrayList<>();
        int lines = random.nextInt(16) + (chance(6) ? 20 : 0) + (chance(12) ? 20 : 0);
        boolean small = !chance(5);
        for (int k = 0; k < lines; k++) {
            line(pieces, small, more);
        }
        if (chance(4)) {
            spoil(pieces);
        }
        return join(pieces);
    }

    private void line(List<String> out, boolean small, int more) {
        int kind = random.nextInt(10);
        if (kind == 0) {
            int most = small ? 9 : 24;
            add(out, "paper", number(4, most), "by", number(4, most), ";");
        } else if (kind <= 2 && octaves.size() < 4 + more) {
            add(out, "octave", newName(octaves), "across", number(1, 8), "down", number(1, 8), "strength", number(1, 9),
                "seed", number(0, 999), ";");
        } else if (kind <= 4 && combs.size() < 4 + more) {
            add(out, "comb", newName(combs), way(), "teeth", number(1, 8), "pull", number(0, 16), ";");
        } else if (kind <= 6 && inks.size() < 5 + more && least < 999) {
            int level = Math.min(999, Math.max(least, chance(3) ? random.nextInt(1000) : 350 + random.nextInt(250)));
            least = level + 1;
            if (slip()) {
                level = Math.max(0, level - random.nextInt(300));
            }
            add(out, "ink", newName(inks), "from", String.valueOf(level), ";");
        } else if (orders < 20 + more) {
            order(out);
        }
    }

    private String way() {
        return random.nextBoolean() ? "across" : "down";
    }

    private void order(List<String> out) {
        int kind = random.nextInt(3);
        instructions = 0;
        if (kind == 0 && !combs.isEmpty()) {
            add(out, "pull", any(combs), "to");
        } else if (kind == 1 && !octaves.isEmpty()) {
            add(out, "seed", any(octaves), "to");
        } else {
            kind = 2;
            add(out, "drift", way(), "by");
        }
        orders++;
        sum(out, 0);
        if (kind != 2 || random.nextBoolean()) {
            add(out, "when");
            test(out, 0);
        }
        add(out, ";");
    }

    private void test(List<String> out, int depth) {
        single(out, depth);
        while (chance(3) && instructions < 30) {
            add(out, random.nextBoolean() ? "or" : "and");
            single(out, depth);
        }
    }

    private void single(List<String> out, int depth) {
        int kind = random.nextInt(8);
        if (kind == 0 && depth < 8) {
            add(out, "not");
            single(out, depth + 1);
        } else if (kind == 1 && depth < 8) {
            add(out, "[");
            test(out, depth + 1);
            add(out, "]");
        } else if (kind == 2 && !inks.isEmpty()) {
            add(out, "edge", any(inks));
        } else {
            sum(out, depth);
            add(out, new String[] {"<", ">", "=", "<=", ">="}[random.nextInt(5)]);
            sum(out, depth);
        }
    }

    private void sum(List<String> out, int depth) {
        value(out, depth);
        while (chance(3) && instructions < 40) {
            add(out, new String[] {"+", "-", "*", "/"}[random.nextInt(4)]);
            value(out, depth);
        }
    }

    private void value(List<String> out, int depth) {
        instructions++;
        int kind = instructions > 40 ? 9 : random.nextInt(16);
        if (kind == 0) {
            add(out, "dip");
        } else if (kind == 1 && !combs.isEmpty()) {
            add(out, "pull", any(combs));
        } else if (kind <= 3 && !inks.isEmpty()) {
            add(out, "share", any(inks));
        } else if (kind == 4 && !octaves.isEmpty()) {
            add(out, "seed", any(octaves));
        } else if (kind <= 8 && depth < 8) {
            bracket(out, depth, kind);
        } else {
            add(out, chance(4) ? number(0, 999999) : number(0, 12));
        }
    }

    private void bracket(List<String> out, int depth, int kind) {
        if (kind == 5) {
            add(out, "-");
            value(out, depth + 1);
        } else if (kind == 6) {
            add(out, "(");
            sum(out, depth + 1);
            add(out, ")");
        } else {
            add(out, kind == 7 ? "height" : random.nextBoolean() ? "min" : "max", "(");
            sum(out, depth + 1);
            add(out, ",");
            sum(out, depth + 1);
            add(out, ")");
        }
    }

    private static void add(List<String> out, String... pieces) {
        out.addAll(List.of(pieces));
    }

    private void spoil(List<String> pieces) {
        for (int n = 1 + random.nextInt(2); n > 0; n--) {
            int at = random.nextInt(pieces.size() + 1);
            int how = random.nextInt(5);
            if (how == 0 || at == pieces.size()) {
                pieces.add(at, PIECES[random.nextInt(PIECES.length)]);
            } else if (how == 1) {
                pieces.remove(at);
            } else if (how == 2) {
                pieces.set(at, PIECES[random.nextInt(PIECES.length)]);
            } else if (how == 3) {
                pieces.set(at, pieces.get(random.nextInt(pieces.size())));
            } else {
                deepen(pieces, at);
            }
        }
    }

    /** Puts brackets or signs about a number, often too deep. */
    private void deepen(List<String> pieces, int at) {
        for (int k = at; k < pieces.size(); k++) {
            if (Character.isDigit(pieces.get(k).charAt(0))) {
                int levels = 6 + random.nextInt(5);
                for (int n = 0; n < levels; n++) {
                    if (random.nextBoolean()) {
                        pieces.add(k, "-");
                    } else {
                        pieces.add(k, "(");
                        int end = k;
                        while (!Character.isDigit(pieces.get(end).charAt(0))) {
                            end++;
                        }
                        pieces.add(end + 1, ")");
                    }
                }
                return;
            }
        }
    }

    private String join(List<String> pieces) {
        StringBuilder text = new StringBuilder();
        String before = "";
        for (String piece : pieces) {
            boolean apart = !before.isEmpty() && alnum(before.charAt(before.length() - 1)) && alnum(piece.charAt(0));
            if (apart && !chance(60) || chance(3)) {
                text.append(chance(8) ? "\n" : chance(12) ? "  " : " ");
            }
            text.append(piece);
            before = piece;
        }
        if (chance(4)) {
            text.append(" ");
        }
        return text.toString();
    }

    private static boolean alnum(char c) {
        return Character.isLetterOrDigit(c);
    }
}
