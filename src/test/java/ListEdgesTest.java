import java.util.ArrayList;
import java.util.List;

/**
 * The sentences of "Terms" and of "1. The language" that name an edge, one after the other: the last
 * that is allowed and the first that is not, the empty and the full, and the order of errors.
 */
public final class ListEdgesTest {
    /** The greatest and the smallest number of 32 bits, told without a step that wraps around. */
    private static final String MAX = "(2147*1000*1000+483647)";
    private static final String MIN = "(-2147*1000*1000-483648)";

    private static final String KEYWORDS = "paper by octave across down strength seed comb teeth pull ink from drift to "
        + "when dip share height edge not and or min max";

    /** Each alternative of the grammar, with a blank between all tokens. */
    private static final String EVERYTHING = "paper 5 by 4 ; octave o across 2 down 3 strength 9 seed 5 ; "
        + "comb c across teeth 2 pull 3 ; comb d down teeth 1 pull 6 ; ink a from 480 ; "
        + "pull c to pull d + seed o - dip when share a < 1 or edge a and not 2 >= 3 ; "
        + "drift across by min ( 1 , 2 ) * max ( 3 , - 4 ) / ( 5 ) ; "
        + "drift down by height ( 6 , 7 ) when [ 1 = 1 ] or 8 > 9 ; seed o to 1 when 1 <= 2 ;";

    private static final String OCTAVE = "octave @ across 1 down 1 strength 1 seed 1;";
    private static final String COMB = "comb @ down teeth 1 pull 1;";
    private static final String INK = "ink @ from 5;";

    /** What makes a value deeper: @ stands for the value, and ? stands ahead of what may be too deep. */
    private static final String[] DEEPER = {"?(@)", "?-@", "min?(@,1)", "min?(1,@)", "max?(@,1)", "max?(1,@)",
        "height?(@,1)", "height?(1,@)"};
    private static final String[] DEEPER_TESTS = {"?not @", "?[@]"};
    /** Where sums stand. */
    private static final String[] PLACES = {"drift across by @;", "drift down by 1 - @;", "drift down by @ when 1 = 1;",
        "drift across by 1 when @ = 1;", "drift across by 1 when 1 <= 2 * @;", "drift across by 1 when edge a and 1 > @;",
        "pull c to @ when 1 = 1;", "seed o to @ + 1 when 1 = 1;"};

    private ListEdgesTest() {
    }

    public static void main(String[] args) {
        sumsWrapAround();
        quotientsAreCutTowardsZero();
        theLongestTokenIsRead();
        bytesOfTokens();
        wordsOfTenBytes();
        keywordsAreNoNames();
        numbersOfSixDigits();
        blanks();
        depthEight();
        depthIsLeftAgain();
        depthOfAllTogether();
        fourHundredTokens();
        endOfTheTape();
        aWrongByteAnywhere();
        error2();
        error3();
        error4();
        error4OfOrders();
        error5();
        error5OfInks();
        theFirstErrorIsTold();
        theSmallestErrorAtOneToken();
        numberedFromZero();
        theLatestPaper();
        Checks.close("ListEdgesTest");
    }

    private static void good(String list) {
        Checks.good(list);
    }

    private static void marked(int error, String list) {
        Checks.marked(error, list);
    }

    /** The one number of the language is the other. */
    private static void equal(String one, String other) {
        MarbledPaper x = Checks.taught("drift across by 1 when " + one + " = " + other + "; "
            + "drift down by 1 when " + one + " < " + other + " or " + one + " > " + other + ";");
        Checks.due(one + " is " + other, 1, () -> x.dip(1));
        Checks.due(one + " is " + other + ", carried out by =", 1, () -> x.count(11));
    }

    // ---- Terms

    private static void sumsWrapAround() {
        equal("-(" + MIN + "+1)", MAX);
        equal(MAX + " / 999999", "2147");
        equal(MIN + " / 999999", "-2147");
        equal(MAX + " + 1", MIN);
        equal(MIN + " + -1", MAX);
        equal(MAX + " + " + MAX, "-2");
        equal(MIN + " + " + MIN, "0");
        equal(MIN + " - 1", MAX);
        equal(MAX + " - -1", MIN);
        equal("0 - " + MIN, MIN);
        equal(MAX + " - " + MIN, "-1");
        equal("-" + MIN, MIN);
        equal("--" + MIN, MIN);
        equal("-" + MAX, MIN + " + 1");
        equal(MAX + " * 2", "-2");
        equal(MIN + " * -1", MIN);
        equal(MAX + " * " + MAX, "1");
        equal(MIN + " * " + MIN, "0");
        equal("32768 * 65536", MIN);
        equal("65536 * 65536", "0");
        equal("46341 * 46341", "-2147 * 1000 * 1000 - 479015");
        equal("999999 * 999999", "-729 * 1000 * 1000 - 379967");
    }

    private static void quotientsAreCutTowardsZero() {
        equal("7 / 2", "3");
        equal("-7 / 2", "-3");
        equal("7 / -2", "-3");
        equal("-7 / -2", "3");
        equal("1 / 2", "0");
        equal("-1 / 2", "0");
        equal("1 / -2", "0");
        equal("0 / 5", "0");
        equal("5 / 0", "0");
        equal("-5 / 0", "0");
        equal("0 / 0", "0");
        equal(MAX + " / 0", "0");
        equal(MIN + " / 0", "0");
        equal(MIN + " / (1 - 1)", "0");
        equal(MIN + " / -1", MIN);
        equal(MIN + " / 1", MIN);
        equal(MIN + " / " + MIN, "1");
        equal(MAX + " / -1", MIN + " + 1");
        equal(MAX + " / " + MIN, "0");
        equal("(" + MIN + " + 1) / -1", MAX);
    }

    // ---- tokens

    private static void theLongestTokenIsRead() {
        good("drift across by 1 when 1<=2;");
        good("drift across by 1 when 1>=2;");
        good("drift across by 1 when 1<=-2;");
        marked(1, "drift across by 1 when 1 < ?= 2;");
        marked(1, "drift across by 1 when 1 > ?= 2;");
        marked(1, "drift across by 1 when 1=?<2;");
        marked(1, "drift across by 1 when 1=?>2;");
        marked(1, "drift across by 1 when 1<=?=2;");
        marked(1, "drift across by 1 when 1>=?=2;");
        marked(1, "drift across by 1 when 1<?<=2;");
        marked(1, "drift across by 1 when 1<=?<2;");
        marked(1, "drift across by 1 when 1<?>2;");
        good("drift across by-1when[1=1]and not[2=2];");
        good("paper 4by 4;");
        marked(1, "paper 4 ?by4;");
        marked(1, "?paper4 by 4;");
        marked(1, "drift across by ?dip1;");
        marked(1, "drift across by 1?dip;");
        marked(1, "drift across ?by1;");
        marked(1, "drift across by ?min1(1, 2);");
        marked(1, "drift across by 1 when ?edgea;");
        marked(1, "drift across by 1 when ?notedge a;");
        marked(1, "ink ?5 a from 5;");
        marked(1, "ink a ?from5;");
        good("ink a from 5;ink b from 6;");
    }

    /** At each of these places all 256 bytes are tried. */
    private static void bytesOfTokens() {
        for (int b = 0; b < 256; b++) {
            char c = (char) b;
            boolean blank = c == ' ' || c == '\n';
            boolean letter = c >= 'a' && c <= 'z';
            boolean digit = c >= '0' && c <= '9';
            boolean between = digit || "+-*/".indexOf(c) >= 0;
            Checks.error("ink a" + c + " from 5;", blank || letter || digit ? 0 : 1, blank || letter || digit ? -1 : 5);
            Checks.error("ink " + c + "a from 5;", blank || letter ? 0 : 1, blank || letter ? -1 : 4);
            Checks.error("drift across by 1" + c + "2;", between ? 0 : 1, between ? -1 : blank || c == ';' ? 18 : 17);
            Checks.error(c + "ink a from 5;", blank ? 0 : 1, blank ? -1 : 0);
            Checks.error("ink a from 5;" + c, blank ? 0 : 1, blank ? -1 : 13);
        }
    }

    private static void wordsOfTenBytes() {
        good("ink abcdefghij from 5;");
        good("ink a123456789 from 5;");
        good("ink zzzzzzzzzz from 5; ink z999999999 from 6; drift across by share zzzzzzzzzz when edge z999999999;");
        marked(1, "ink ?abcdefghijk from 5;");
        marked(1, "ink ?a1234567890 from 5;");
        marked(1, "ink ?" + "a".repeat(300) + " from 5;");
        marked(1, "?" + "a".repeat(2000));
        marked(1, "drift across by 1 when edge ?abcdefghijk;");
        marked(1, "?paperpaperp");
        // Names are the same only with all their bytes.
        good("ink abcdefghij from 5; ink abcdefghik from 6; ink bbcdefghij from 7; ink abcdefghi from 8; "
            + "ink a0bcdefghi from 9;");
        marked(3, "ink abcdefghij from 5; drift across by share ?abcdefghik;");
        marked(3, "ink abcdefghij from 5; drift across by share ?bbcdefghij;");
        marked(3, "ink abcdefghij from 5; drift across by share ?abcdefghi;");
        marked(3, "ink a from 5; drift across by share ?a0;");
        marked(3, "ink a9 from 5; drift across by share ?b0;");
        marked(3, "ink az from 5; drift across by share ?b;");
        marked(3, "ink aza from 5; drift across by share ?a0a;");
        String signs = "abcdefghijklmnopqrstuvwxyz0123456789";
        for (String name : new String[] {"a", "z", "a0", "b0", "aj", "dl", "z9", "zz"}) {
            for (int first = 0; first < 26; first++) {
                for (int second = -1; second < 36; second++) {
                    String other = signs.charAt(first) + (second < 0 ? "" : signs.substring(second, second + 1));
                    String list = "ink " + name + " from 5; drift across by share ?" + other + ";";
                    if (other.equals(name)) {
                        good(list.replace("?", ""));
                    } else {
                        marked(List.of(KEYWORDS.split(" ")).contains(other) ? 1 : 3, list);
                    }
                }
            }
        }
    }

    private static void keywordsAreNoNames() {
        for (String keyword : KEYWORDS.split(" ")) {
            marked(1, "ink ?" + keyword + " from 5;");
            marked(1, "octave ?" + keyword + " across 1 down 1 strength 1 seed 1;");
            marked(1, "comb ?" + keyword + " across teeth 1 pull 1;");
            marked(1, "drift across by 1 when edge ?" + keyword + ";");
            good("ink " + keyword + "1 from 5;");
            good("ink x" + keyword + " from 5;");
            good("ink " + keyword.substring(0, keyword.length() - 1) + " from 5;");
        }
        good("ink apaper from 5; ink byx from 6; octave edged across 1 down 1 strength 1 seed 1;");
    }

    private static void numbersOfSixDigits() {
        good("drift across by 999999;");
        good("drift across by 000000;");
        marked(1, "drift across by ?1000000;");
        marked(1, "drift across by ?0000000;");
        marked(1, "drift across by ?" + "9".repeat(1900) + ";");
        marked(1, "drift across by 1 when 1 = ?1234567;");
        equal("000012", "12");
        equal("999999 - 999998", "1");
        good("paper 000004 by 000024;");
        marked(1, "paper ?0000004 by 4;");
        marked(1, "paper 4 by ?0000004;");
        marked(5, "paper ?000003 by 4;");
        marked(1, "ink a from ?0000005;");
        // Each number has a digit, a number does not bear a sign.
        marked(1, "ink a from ?;");
        marked(1, "ink a from ?-1;");
        marked(1, "octave a across 1 down 1 strength 1 seed ?-1;");
    }

    private static void blanks() {
        good("");
        good(" ".repeat(2000));
        good("\n".repeat(2000));
        good("\n  ink \n\n a  from\n5 \n;  \n");
        good(" ".repeat(1000) + "ink a from 5;" + "\n".repeat(987));
        good("octave o across 1 down 1 strength 1 seed 1;seed o to(1)*seed o when[not-1<=2]and 1=2;");
        marked(1, "?in k a from 5;");
        marked(1, "ink a from 5 ?0;");
        marked(1, "drift across by 1 when 1 < ?= 1;");
        marked(1, "ink a?\tfrom 5;");
        marked(1, "ink a?\rfrom 5;");
        marked(1, "ink a?\u00a0from 5;");
        marked(1, "ink a?\u000bfrom 5;");
    }

    // ---- depth

    private static String around(String outer, String inner) {
        return outer.replace("?", "").replace("@", inner);
    }

    private static String nested(String[] kinds, int first, int step, int levels, String innermost) {
        String text = innermost;
        for (int level = 0; level < levels; level++) {
            text = around(kinds[(first + level * step) % kinds.length], text);
        }
        return text;
    }

    private static void depthEight() {
        String told = OCTAVE.replace("@", "o") + COMB.replace("@", "c") + INK.replace("@", "a");
        for (String place : PLACES) {
            for (int kind = 0; kind < DEEPER.length; kind++) {
                for (int step = 0; step < 4; step++) {
                    good(told + around(place, nested(DEEPER, kind, step, 8, "7")));
                    // Only the ninth level has its ?, ahead of the token that is too deep.
                    String ninth = nested(DEEPER, kind, step, 8, "@").replace("@", DEEPER[kind].replace("@", "7"));
                    marked(1, told + place.replace("@", ninth));
                }
            }
        }
        for (int kind = 0; kind < DEEPER_TESTS.length; kind++) {
            for (int step = 0; step < 2; step++) {
                String head = "drift across by 1 when ";
                good(head + nested(DEEPER_TESTS, kind, step, 8, "1 = 1") + ";");
                for (String ninth : new String[] {"?not 1 = 1", "?[1 = 1]", "?(1) = 1", "?-1 = 1", "1 = ?-1",
                    "min?(1, 2) = 1", "1 = height?(1, 2)", "1 < max?(1, 2)"}) {
                    marked(1, head + nested(DEEPER_TESTS, kind, step, 8, "@").replace("@", ninth) + ";");
                }
            }
        }
    }

    private static void depthIsLeftAgain() {
        String sum = nested(DEEPER, 0, 1, 8, "7");
        good("drift across by " + sum + " + " + sum + " * " + sum + ";");
        good("drift across by 1 when " + sum + " = " + sum + " and " + sum + " < 1;");
        good("drift across by (" + nested(DEEPER, 1, 1, 7, "7") + ") - (" + nested(DEEPER, 2, 1, 7, "7") + ");");
        String test = nested(DEEPER_TESTS, 0, 1, 8, "1 = 1");
        good("drift across by " + sum + " when " + test + " or " + test + " and " + test + ";");
        good("drift across by 1 when [" + nested(DEEPER_TESTS, 1, 1, 7, "1 = 1") + "] and not "
            + nested(DEEPER_TESTS, 0, 1, 7, "1 = 1") + ";");
        good("drift across by --------1 - --------1;");
        // A - between two values makes nothing deeper.
        good("drift across by ((((((((1-2-3))))))));");
        good("drift across by --------1-1-1;");
        marked(1, "drift across by ((((((((1-?-3))))))));");
        // Behind a not its whole comparison is deeper, but not what follows.
        good("drift across by 1 when not not not not not not not -1 = -1 and -------- 1 = 1;");
        marked(1, "drift across by 1 when not not not not not not not 1 = -?-1;");
        marked(1, "drift across by 1 when not not not not not not not not 1 = ?-1;");
        good("drift across by min(-1,-------1);");
        marked(1, "drift across by min(-1,-------?-1);");
    }

    private static void depthOfAllTogether() {
        good("drift across by 1 when not [not [not [(-1) = 1]]];");
        marked(1, "drift across by 1 when not [not [not [((?-1)) = 1]]];");
        marked(1, "drift across by 1 when not [not [not [not [?(1) = 1]]]];");
        marked(1, "drift across by 1 when not [not [not [not [1 = ?-1]]]];");
        marked(1, "drift across by 1 when not [not [not [not [?not 1 = 1]]]];");
        marked(1, "drift across by 1 when not [not [not [not [?[1 = 1]]]]];");
        marked(1, "drift across by 1 when not [not [not [not [max?(1,1) = 1]]]];");
        good("ink a from 5; drift across by 1 when not [not [not [not [edge a]]]];");
    }

    // ---- error 1

    private static void fourHundredTokens() {
        String many = "paper 4 by 4;".repeat(79);
        good(many + "ink a from 5;");
        marked(1, many + "ink a from 5;?ink b from 6;");
        marked(1, many + "ink a from 5;  \n?;");
        marked(1, many + "ink a from 5;?!");
        marked(1, many + "ink a from 5;?1234567");
        good(many + "ink a from 5;" + " \n ");
        // With 400 tokens and no end of the line, it is the end of the tape that is wrong.
        marked(1, many + "drift across by -1  ?");
        marked(1, many + "drift across by -1?;");
        marked(1, many + "ink a from ?");
        // The 401st token is told, and no other error.
        marked(1, many + "ink a from 1000;?;");
        marked(5, many + "ink a from ?1000;");
        marked(5, "paper ?3 by 4;" + many);
        marked(1, "paper 3 by 4;" + many + "?paper 4 by 4;");
        String sum = "drift across by " + "1+".repeat(197) + "1";
        good(sum + ";");
        marked(1, sum + "+1?;");
        marked(1, sum + "+1?");
        marked(1, sum + "+1?+1;");
        marked(1, sum + ";drift ?across by 1;");
    }

    private static String[] everything() {
        return EVERYTHING.split(" ");
    }

    private static void endOfTheTape() {
        good(EVERYTHING);
        StringBuilder text = new StringBuilder();
        for (String token : everything()) {
            text.append(token);
            boolean whole = token.equals(";");
            Checks.error(text.toString(), whole ? 0 : 1, whole ? -1 : text.length());
            String more = text + " \n ";
            Checks.error(more, whole ? 0 : 1, whole ? -1 : more.length());
            text.append(' ');
        }
        Checks.error("ink" + " ".repeat(1997), 1, 2000);
        Checks.error(" ".repeat(1999) + "a", 1, 1999);
        Checks.error(" ".repeat(1999) + "!", 1, 1999);
        Checks.error(" ".repeat(1997) + "ink", 1, 2000);
        Checks.error("paper", 1, 5);
    }

    private static void aWrongByteAnywhere() {
        String[] tokens = everything();
        for (int k = 0; k <= tokens.length; k++) {
            List<String> list = new ArrayList<>(List.of(tokens));
            String rest = k == tokens.length ? "" : String.join(" ", list.subList(k, tokens.length));
            String ahead = k == 0 ? "" : String.join(" ", list.subList(0, k)) + " ";
            Checks.error(ahead + "!" + rest, 1, ahead.length());
            Checks.error(ahead + "A" + rest, 1, ahead.length());
            Checks.error(ahead + "1234567 " + rest, 1, ahead.length());
            Checks.error(ahead + "abcdefghijk " + rest, 1, ahead.length());
        }
    }

    // ---- errors 2 to 5

    private static String told(String line, String... names) {
        StringBuilder text = new StringBuilder();
        for (String name : names) {
            text.append(line.replace("@", name));
        }
        return text.toString();
    }

    /** Inks of these names, with levels from 1 on. */
    private static String inks(String... names) {
        StringBuilder text = new StringBuilder();
        for (int k = 0; k < names.length; k++) {
            text.append("ink ").append(names[k]).append(" from ").append(k + 1).append(";");
        }
        return text.toString();
    }

    private static void error2() {
        for (String line : new String[] {OCTAVE, COMB}) {
            good(told(line, "a", "b", "c", "d"));
            marked(2, told(line, "a", "?a"));
            marked(2, told(line, "a", "b", "c", "?a"));
            marked(2, told(line, "a", "b", "c", "?c"));
            marked(2, told(line, "a", "b", "?b", "a"));
        }
        good(inks("a", "b", "c", "d", "e"));
        marked(2, inks("a", "?a"));
        marked(2, inks("a", "b", "c", "d", "?a"));
        marked(2, inks("a", "b", "c", "d", "?d"));
        marked(2, inks("a", "b", "?b", "a"));
        // Names of other kinds are no matter.
        good(told(OCTAVE, "a", "b") + told(COMB, "b", "a") + inks("b", "a"));
        good(inks("a", "b") + told(COMB, "a") + told(OCTAVE, "a") + told(COMB, "b"));
    }

    private static void error3() {
        String[][] uses = {
            {COMB, "pull @ to 1 when 1 = 1;"}, {COMB, "drift across by pull @;"},
            {COMB, "drift down by 1 when pull @ = 1;"}, {COMB, "drift down by 1 when 1 < -min(1, pull @);"},
            {INK, "drift across by share @;"}, {INK, "drift down by 1 when 1 >= share @;"},
            {INK, "drift down by 1 when edge @;"}, {INK, "drift down by 1 when 1 = 1 or not [edge @];"},
            {OCTAVE, "seed @ to 1 when 1 = 1;"}, {OCTAVE, "drift across by seed @;"},
            {OCTAVE, "drift across by height(1, seed @) when 1 = 1;"}, {OCTAVE, "drift down by 1 when seed @ = 1;"}};
        for (String[] use : uses) {
            String others = "";
            for (String kind : new String[] {COMB, INK, OCTAVE}) {
                others += kind.equals(use[0]) ? told(kind, "y", "xx").replace("ink xx from 5", "ink xx from 6")
                    : told(kind, "x");
            }
            String own = told(use[0], "x");
            marked(3, told(use[1], "?x"));
            marked(3, others + told(use[1], "?x"));
            marked(3, told(use[1], "?x") + own);
            good(own + told(use[1], "x"));
            good(own + told(use[1], "x", "x"));
        }
        String all = told(COMB, "c") + told(OCTAVE, "o") + told(INK, "i");
        marked(3, all + "pull ?o to 1 when 1 = 1;");
        marked(3, all + "pull ?i to 1 when 1 = 1;");
        marked(3, all + "seed ?c to 1 when 1 = 1;");
        marked(3, all + "seed ?i to 1 when 1 = 1;");
        marked(3, all + "pull c to share ?c when 1 = 1;");
        marked(3, all + "pull c to share ?o when 1 = 1;");
        marked(3, all + "seed o to 1 when edge ?o;");
        marked(3, all + "seed o to 1 when edge ?c;");
        marked(3, all + "pull c to seed o + pull c * seed ?x when edge z;");
        good(all + "pull c to seed o + pull c * share i when edge i; seed o to pull c when share i = 1;");
    }

    private static void error4() {
        for (String line : new String[] {OCTAVE, COMB}) {
            good(told(line, "a", "b", "c", "d"));
            marked(4, told(line, "a", "b", "c", "d", "?e"));
            marked(4, told(line, "a", "b", "c", "d", "?e", "f", "a"));
        }
        good(inks("a", "b", "c", "d", "e"));
        marked(4, inks("a", "b", "c", "d", "e", "?f"));
        marked(4, inks("a", "b", "c", "d", "e", "?f", "g", "a"));
        // As many as can be of all kinds.
        String full = told(OCTAVE, "a", "b", "c", "d") + told(COMB, "a", "b", "c", "d") + inks("a", "b", "c", "d", "e");
        good(full + "drift down by 1;".repeat(20));
        marked(4, full + "drift down by 1;".repeat(20) + "?drift down by 1;");
        marked(4, full + told(OCTAVE, "?e"));
        marked(4, full + told(COMB, "?e"));
        marked(4, full + "ink ?f from 6;");
    }

    private static void error4OfOrders() {
        String told = told(OCTAVE, "o") + told(COMB, "c");
        String[] kinds = {"?drift down by 1;", "?pull c to 1 when 1 = 1;", "?seed o to 1 when 1 = 1;",
            "?pull z to 1 when 1 = 1;", "?seed z to 1 when 1 = 1;", "?drift across by pull z;"};
        for (int first = 0; first < 3; first++) {
            StringBuilder twenty = new StringBuilder(told);
            for (int k = 0; k < 20; k++) {
                twenty.append(kinds[(first + k) % 3].substring(1));
            }
            good(twenty.toString());
            Checks.due("twenty orders", 20, () -> Checks.taught(twenty.toString()).count(6));
            for (String kind : kinds) {
                marked(4, twenty + kind);
                marked(4, twenty + "paper 4 by 4;" + kind + "drift down by 1;");
            }
            good(twenty + "paper 4 by 4;" + told(COMB, "d"));
        }
        // Only orders count: pull and seed of combs and octaves, and in sums, do not.
        good(told + "drift across by pull c + seed o;".repeat(20));
    }

    private static void error5() {
        String[][] ranges = {
            {"paper @ by 4;", "4", "24"}, {"paper 4 by @;", "4", "24"},
            {"octave a across @ down 1 strength 1 seed 1;", "1", "8"},
            {"octave a across 1 down @ strength 1 seed 1;", "1", "8"},
            {"octave a across 1 down 1 strength @ seed 1;", "1", "9"},
            {"octave a across 1 down 1 strength 1 seed @;", "0", "999"},
            {"comb a across teeth @ pull 1;", "1", "8"}, {"comb a down teeth @ pull 1;", "1", "8"},
            {"comb a across teeth 1 pull @;", "0", "16"}, {"comb a down teeth 1 pull @;", "0", "16"},
            {"ink a from @;", "0", "999"}};
        for (String[] range : ranges) {
            int least = Integer.parseInt(range[1]);
            int most = Integer.parseInt(range[2]);
            for (int n = 0; n <= most + 2; n++) {
                inRange(n >= least && n <= most, range[0], String.valueOf(n));
            }
            inRange(true, range[0], "00000" + least);
            inRange(false, range[0], "999999");
        }
        // A number of a line of paper is looked at, also if a later one tells the paper.
        marked(5, "paper 4 by ?25; paper 4 by 4;");
        // Other numbers have no range.
        good("drift across by 0; drift across by 999999 when 999999 > 0;");
    }

    private static void inRange(boolean allowed, String line, String number) {
        if (allowed) {
            good(line.replace("@", number));
        } else {
            marked(5, line.replace("@", "?" + number));
        }
    }

    private static void error5OfInks() {
        good("ink a from 0; ink b from 1; ink c from 2; ink d from 998; ink e from 999;");
        marked(5, "ink a from 0; ink b from ?0;");
        marked(5, "ink a from 7; ink b from ?7;");
        marked(5, "ink a from 7; ink b from ?6;");
        good("ink a from 7; ink b from 8;");
        marked(5, "ink a from 7; ink b from 9; ink c from ?9;");
        marked(5, "ink a from 7; ink b from 9; ink c from ?8;");
        good("ink a from 7; ink b from 9; ink c from 10;");
        marked(5, "ink a from 999; ink b from ?999;");
        marked(5, "ink a from 999; ink b from ?1000;");
        marked(5, "ink a from 7; drift across by share a; paper 4 by 4; ink b from ?7;");
        marked(5, "ink a from 1; ink b from 2; ink c from 3; ink d from 4; ink e from ?4;");
    }

    // ---- which error is told

    private static void theFirstErrorIsTold() {
        String full = told(OCTAVE, "a", "b", "c", "d") + told(COMB, "a", "b", "c", "d") + inks("a", "b", "c", "d", "e");
        String[] mistakes = {
            "2octave ?a across 1 down 1 strength 1 seed 1;", "2comb ?d across teeth 1 pull 1;", "2ink ?c from 9;",
            "3pull ?z to 1 when 1 = 1;", "3seed ?z to 1 when 1 = 1;", "3drift across by share ?z;",
            "3drift across by 1 when edge ?z;", "4octave ?z across 1 down 1 strength 1 seed 1;",
            "4comb ?z across teeth 1 pull 1;", "4ink ?z from 9;", "5paper ?3 by 4;", "5paper 4 by ?25;"};
        for (String first : mistakes) {
            String wrong = full + first.substring(1);
            int error = first.charAt(0) - '0';
            marked(error, wrong);
            for (String second : mistakes) {
                marked(error, wrong + second.substring(1).replace("?", ""));
            }
            marked(1, wrong.replace("?", "") + "ink?");
            marked(1, wrong.replace("?", "") + "ink a ?to 5;");
            marked(1, "?!" + wrong.replace("?", ""));
        }
        // From left to right within a line, too.
        marked(2, full + "octave ?a across 9 down 9 strength 10 seed 1000;");
        marked(4, full + "octave ?z across 9 down 9 strength 10 seed 1000;");
        marked(5, "octave a across ?9 down 9 strength 10 seed 1000;");
        marked(5, "octave a across 8 down ?9 strength 10 seed 1000;");
        marked(5, "octave a across 8 down 8 strength ?10 seed 1000;");
        marked(5, "comb a across teeth ?9 pull 17;");
        marked(3, full + "pull ?z to pull y when edge x;");
        marked(3, full + "pull a to pull ?y when edge x;");
        marked(3, full + "pull a to pull b when share ?x = seed w;");
        marked(1, "paper 3 by ?by");
    }

    private static void theSmallestErrorAtOneToken() {
        for (String line : new String[] {OCTAVE, COMB}) {
            String four = told(line, "a", "b", "c", "d");
            for (String name : new String[] {"a", "b", "c", "d"}) {
                marked(2, four + told(line, "?" + name));
            }
            marked(4, four + told(line, "?e"));
        }
        for (String name : new String[] {"a", "b", "c", "d", "e"}) {
            marked(2, inks("a", "b", "c", "d", "e") + "ink ?" + name + " from 9;");
        }
        // It would be both too great and no greater than the one ahead.
        marked(5, "ink a from 5; ink b from ?1000;");
        // At one token error 1 is the smallest.
        marked(1, "paper ?0000003 by 4;");
        marked(1, "ink ?abcdefghijk from 5;");
    }

    // ---- what a list tells

    private static void numberedFromZero() {
        MarbledPaper x = Checks.taught("paper 4 by 4; ink i from 500; drift across by 1; "
            + "octave d across 1 down 2 strength 1 seed 10; comb z across teeth 1 pull 3; ink j from 501; "
            + "octave a across 3 down 4 strength 2 seed 20; comb y down teeth 2 pull 4; seed a to 21 when dip = 0; "
            + "octave c across 5 down 6 strength 3 seed 30; comb x across teeth 3 pull 5; ink h from 999; "
            + "octave b across 7 down 8 strength 4 seed 40; comb w down teeth 4 pull 6; pull w to seed a when 1 = 1;");
        for (int k = 0; k < 4; k++) {
            int n = k;
            Checks.due("octave " + n + " across", 2 * n + 1, () -> x.octave(n, 0));
            Checks.due("octave " + n + " down", 2 * n + 2, () -> x.octave(n, 1));
            Checks.due("octave " + n + " strength", n + 1, () -> x.octave(n, 2));
            Checks.due("octave " + n + " seed", 10 * n + 10, () -> x.octave(n, 3));
            Checks.due("comb " + n + " way", n % 2, () -> x.comb(n, 0));
            Checks.due("comb " + n + " teeth", n + 1, () -> x.comb(n, 1));
            Checks.due("comb " + n + " pull", n + 3, () -> x.comb(n, 2));
        }
        Checks.due("orders", 3, () -> x.count(6));
        Checks.due("all three are carried out, in their order", 3, () -> x.dip(1));
        Checks.due("the seed of octave 1", 21, () -> x.octave(1, 3));
        Checks.due("the pull of comb 3, by the new seed", 16, () -> x.comb(3, 2));
    }

    private static void theLatestPaper() {
        int[][] sizes = {{4, 24}, {24, 4}, {7, 9}};
        String rest = "octave o across 1 down 1 strength 9 seed 0; comb c down teeth 1 pull 3; ink a from 500;";
        for (int[] size : sizes) {
            String paper = "paper " + size[0] + " by " + size[1] + ";";
            for (String list : new String[] {paper + rest, rest + paper, "paper 5 by 6;" + rest + paper,
                "paper 24 by 24;" + paper + rest}) {
                MarbledPaper x = Checks.taught(list);
                Checks.due("columns of " + list, size[0], () -> x.count(1));
                Checks.due("rows of " + list, size[1], () -> x.count(2));
                Checks.due("spots of " + list, size[0] * size[1], () -> x.share(0) + x.share(1));
                Checks.due("value of " + list, Checks.taught(paper + rest).value(0, 1, 0), () -> x.value(0, 1, 0));
            }
        }
        Checks.due("columns without a paper", 16, () -> Checks.taught(rest).count(1));
        Checks.due("rows without a paper", 12, () -> Checks.taught(rest).count(2));
    }
}
