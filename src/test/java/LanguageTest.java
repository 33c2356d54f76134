/** The language of the tape: tokens, grammar, depth, errors, sums, tests and dips. */
public final class LanguageTest {
    private static final String TOLD = "octave o across 1 down 1 strength 1 seed 500; comb c across teeth 1 pull 3; "
        + "ink a from 400; ink b from 600; ";

    private LanguageTest() {
    }

    public static void main(String[] args) {
        goodLists();
        tokens();
        grammar();
        depth();
        mostTokens();
        errors2And3();
        errors4();
        errors5();
        firstError();
        sums();
        tests();
        Checks.close("LanguageTest");
    }

    private static void error(String list, int error, int place) {
        Checks.error(list, error, place);
    }

    private static void good(String list) {
        Checks.good(list);
    }

    private static void marked(int error, String list) {
        Checks.marked(error, list);
    }

    private static void goodLists() {
        good("");
        good(" \n ");
        good("paper 4 by 24;");
        good("paper 024by 000004;");
        good("octave a across 8 down 8 strength 9 seed 999;octave b across 1 down 1 strength 1 seed 0;");
        good("comb a across teeth 8 pull 16;comb b down teeth 1 pull 0;");
        good("ink a from 0;ink b from 1;ink c from 998;ink d from 999;");
        good("comb x across teeth 1 pull 1; octave x across 1 down 1 strength 1 seed 1; ink x from 3; "
            + "pull x to seed x when edge x; seed x to pull x when share x = 1;");
        good("drift across by 1; drift down by 999999 when 1 = 1;");
        good(TOLD + "pull c to 1 when not edge a and [edge b or 1 <= 2] or not not 3 >= 4;");
        good("\n paper 4 by 4 ; \n");
        good("ink a from 5;ink b1c2d3e4f5 from 6;");
    }

    private static void tokens() {
        marked(1, "?Paper 4 by 4;");
        marked(1, "paper?\t4 by 4;");
        marked(1, "paper 4 by 4;?\r");
        marked(1, "ink ?_a from 5;");
        marked(1, "ink ?abcdefghijk from 5;");
        good("ink abcdefghij from 5;");
        marked(1, "ink a from ?1234567;");
        marked(1, "ink a from ?0000005;");
        good("ink a from 000005;");
        marked(1, "ink a ?from5;");
        good("ink a from5;".replace("from5", "from 5"));
        marked(1, "paper 4?by4;");
        good("paper 4by 4;");
        marked(1, "ink ?5a from 5;");
        marked(1, "?\u0080");
        marked(1, "?\u00ff");
        marked(1, "?\u0000");
        marked(1, "drift across by 1 when 1 = ?= 1;");
        marked(1, "drift across by 1 when 1 < ?= 1;");
        marked(1, "drift across by 1 when 1 = ?< 1;");
        marked(1, "drift across by 1 when 1 <= ?= 1;");
        marked(1, "drift across by 1 when 1 <?> 1;");
        good("drift across by 1 when 1<=1;drift across by 1 when 1>=1;");
        marked(1, "drift across by 1 ?! 2;");
        marked(1, "?papers 4 by 4;");
    }

    private static void grammar() {
        marked(1, "?;");
        marked(1, "paper 4 by 4;?;");
        marked(1, "paper 4 by 4?");
        marked(1, "paper 4 by 4  ?");
        marked(1, "paper 4 ?4;");
        marked(1, "paper ?by 4;");
        marked(1, "octave a across 1 down 1 strength 1 ?;");
        marked(1, "octave ?across across 1 down 1 strength 1 seed 1;");
        marked(1, "octave a ?down 1 across 1 strength 1 seed 1;");
        marked(1, "comb a ?teeth 1 pull 1;");
        marked(1, "comb a across ?pull 1 teeth 1;");
        marked(1, "ink a from ?-5;");
        marked(1, "ink a from ?b;");
        marked(1, "pull a to 1 ?;");
        marked(1, "seed a to 1 ?;");
        marked(1, "pull a ?by 1 when 1 = 1;");
        marked(1, "drift across ?to 1;");
        marked(1, "drift ?by 1;");
        marked(1, "drift across by ?;");
        marked(1, "drift across by 1 when ?;");
        marked(1, "drift across by 1 when 1?;");
        marked(1, "drift across by 1 when 1 = 1 ?= 1;");
        marked(1, "drift across by 1 when (1 ?= 1);");
        marked(1, "drift across by 1 when [1?];");
        marked(1, "drift across by [1;".replace("[", "?["));
        marked(1, "drift across by 1 when edge ?1;");
        marked(1, "drift across by 1 when 1 + ?edge a;");
        marked(1, "drift across by 1 when 1 + ?not 1 = 1;");
        marked(1, "drift across by 1 when 1 = 1 and ?;");
        marked(1, "drift across by 1 when 1 = 1 ?, 1 = 1;");
        marked(1, "drift across by min(1?);");
        marked(1, "drift across by min(1, 2?, 3);");
        marked(1, "drift across by min ?1, 2);");
        marked(1, "drift across by height(1?+);".replace("?+", "+?"));
        marked(1, "drift across by share ?;");
        marked(1, "drift across by ?a;");
        marked(1, "drift across by pull ?across;");
        marked(1, "drift across by 1 ?2;");
        marked(1, "drift across by (1?;");
        marked(1, "drift across by 1?);");
        marked(1, "drift across by + 1;".replace("+", "?+"));
        marked(1, "?across");
        marked(1, "drift across by 1 ?or 1 = 1;");
    }

    private static void depth() {
        good("drift across by " + "(".repeat(8) + "1" + ")".repeat(8) + ";");
        marked(1, "drift across by ((((((((?(1)))))))));");
        good("drift across by --------1;");
        marked(1, "drift across by --------?-1;");
        good("drift across by --------1 + --------1 * --------1;");
        marked(1, "drift across by -(-(-(-(?-1))));");
        good("drift across by -(-(-(-(1))));");
        good("drift across by 1 when not not not not not not not not 1 = 1;");
        marked(1, "drift across by 1 when not not not not not not not not ?not 1 = 1;");
        good("drift across by 1 when [[[[[[[[1 = 1]]]]]]]];");
        marked(1, "drift across by 1 when [[[[[[[[?[1 = 1]]]]]]]]];");
        marked(1, "drift across by 1 when not [not [not [not [?(1) = 1]]]];");
        marked(1, "drift across by 1 when not [not [not [not [1 = ?-1]]]];");
        good("drift across by 1 when not [not [not [not 1 = (1)]]];");
        good("drift across by 1 when not [not [not [not 1 = 1]]] and not [not [not [not [1 = 1]]]];");
        good("drift across by min(min(min(min(min(min(min(min(1,2),2),2),2),2),2),2),2);");
        marked(1, "drift across by min(min(min(min(min(min(min(min(?(1),2),2),2),2),2),2),2),2);");
        marked(1, "drift across by height(-------?-1, 2);");
        marked(1, "drift across by height(1, -------?-2);");
        marked(1, "drift across by ((((((((min?(1,2)))))))));");
        marked(1, "drift across by ((((((((height?(1,2)))))))));");
        marked(1, "drift across by max(1,max(1,max(1,max(1,max(1,max(1,max(1,max(1,?(1)))))))));");
        good("drift across by max(-1,(2)) + max(1,-2) when not 1 = 1 and [1 = 1];");
        marked(1, "drift across by 1 when not -------?-1 = 1;".replace("?", "-?").replace("-------", "------"));
    }

    private static void mostTokens() {
        String eighty = "paper 4 by 4;".repeat(80);
        good(eighty);
        good(eighty + "  \n");
        error(eighty + " paper", 1, 1041);
        error(eighty + "?", 1, 1040);
        error("paper 4 by 4;".repeat(79) + "paper 4 by 4 paper", 1, 79 * 13 + 13);
        error("drift across by 1" + "+1".repeat(198) + ";", 1, 17 + 2 * 198);
        String longest = "drift across by 1" + "+1".repeat(197) + ";";
        MarbledPaper x = Checks.taught(longest);
        Checks.due("the longest sum", 1, () -> x.dip(1));
        Checks.due("the longest sum drifts", 198 % 16, () -> x.count(11));
        error("drift across by 1" + "+1".repeat(197), 1, 17 + 2 * 197);
        MarbledPaper y = new MarbledPaper();
        Checks.write(y, " ".repeat(1987) + "paper 4 by 9;");
        Checks.due("the longest tape", 0, y::teach);
        Checks.due("its rows", 9, () -> y.count(2));
    }

    private static void errors2And3() {
        marked(2, "octave a across 1 down 1 strength 1 seed 1; octave ?a across 9 down 1 strength 1 seed 1;");
        marked(2, "comb a across teeth 1 pull 1; comb ?a down teeth 1 pull 1;");
        marked(2, "ink a from 1; ink b from 2; ink ?a from 3;");
        marked(3, "pull ?c to 1 when 1 = 1; comb c across teeth 1 pull 1;");
        marked(3, "ink c from 5; octave c across 1 down 1 strength 1 seed 1; pull ?c to 1 when 1 = 1;");
        marked(3, "comb c across teeth 1 pull 1; ink c from 5; seed ?c to 1 when 1 = 1;");
        marked(3, "comb c across teeth 1 pull 1; drift across by share ?c;");
        marked(3, "comb c across teeth 1 pull 1; drift across by 1 when edge ?c;");
        marked(3, "comb c across teeth 1 pull 1; drift across by seed ?c;");
        marked(3, "ink c from 5; drift across by pull ?c;");
        marked(3, TOLD + "pull c to share b + share ?c when edge z;");
        marked(3, TOLD + "drift down by 1 when not [edge ?o];");
    }

    private static void errors4() {
        String octave = " across 1 down 1 strength 1 seed 1;";
        String four = "octave a" + octave + "octave b" + octave + "octave c" + octave + "octave d" + octave;
        good(four);
        marked(4, four + "octave ?e" + octave);
        marked(2, four + "octave ?b" + octave);
        String comb = " down teeth 1 pull 1;";
        String combs = "comb a" + comb + "comb b" + comb + "comb c" + comb + "comb d" + comb;
        good(combs);
        marked(4, combs + "comb ?e" + comb);
        marked(2, combs + "comb ?d" + comb);
        String inks = "ink a from 1;ink b from 2;ink c from 3;ink d from 4;ink e from 5;";
        good(inks);
        marked(4, inks + "ink ?f from 6;");
        marked(4, inks + "ink ?f from 5;");
        marked(2, inks + "ink ?a from 6;");
        String orders = TOLD + "drift down by 1;pull c to 2 when 1 = 1;".repeat(9) + "seed o to 3 when 1 = 1;".repeat(2);
        good(orders);
        Checks.due("orders of all three together", 20, () -> Checks.taught(orders).count(6));
        marked(4, orders + "?drift across by 1;");
        marked(4, orders + "?pull c to 1 when 1 = 1;");
        marked(4, orders + "?pull z to 1 when 1 = 1;");
        marked(4, orders + "?seed o to 1 when 1 = 1;");
        good(orders + "paper 5 by 5; ink c from 700;");
    }

    private static void errors5() {
        marked(5, "paper ?3 by 25;");
        marked(5, "paper ?25 by 4;");
        marked(5, "paper 24 by ?3;");
        marked(5, "paper 4 by ?999999;");
        marked(5, "octave a across ?0 down 1 strength 1 seed 1;");
        marked(5, "octave a across ?9 down 1 strength 1 seed 1;");
        marked(5, "octave a across 8 down ?0 strength 1 seed 1;");
        marked(5, "octave a across 8 down ?9 strength 1 seed 1;");
        marked(5, "octave a across 8 down 8 strength ?0 seed 1;");
        marked(5, "octave a across 8 down 8 strength ?10 seed 1;");
        marked(5, "octave a across 8 down 8 strength 9 seed ?1000;");
        marked(5, "comb a down teeth ?0 pull 1;");
        marked(5, "comb a down teeth ?9 pull 1;");
        marked(5, "comb a down teeth 8 pull ?17;");
        marked(5, "ink a from ?1000;");
        marked(5, "ink a from 5; ink b from ?5;");
        marked(5, "ink a from 5; ink b from ?4;");
        marked(5, "ink a from 0; ink b from ?0;");
        marked(5, "ink a from 999; ink b from ?1000;");
        marked(5, "ink a from 5; ink b from 6; paper 4 by 4; ink c from ?6;");
    }

    private static void firstError() {
        marked(1, "paper 3 by 4; ink a from 5; ink a from ?;");
        marked(5, "paper ?3 by 4; ink a from 5; ink a from 6; pull z to 1 when 1 = 1;");
        marked(2, "ink a from 5; ink ?a from 4;");
        marked(3, "pull ?z to 1 when 1 = 1; paper 3 by 4;");
        marked(3, "drift across by pull ?y when share z = 1;");
    }

    private static void sum(String sum, int due) {
        MarbledPaper x = Checks.taught(TOLD + "drift across by 3; seed o to " + sum + " when 1 = 1;");
        x.dip(1);
        Checks.due("sum " + sum, due, () -> x.octave(0, 3));
    }

    private static void sums() {
        sum("2 + 3 * 4", 14);
        sum("(2 + 3) * 4", 20);
        sum("20 - 5 - 3", 12);
        sum("100 / 5 / 2", 10);
        sum("2 * 3 / 4 * 5", 5);
        sum("10 + -7 / 2", 7);
        sum("10 + 7 / -2", 7);
        sum("10 - 7 / 2", 7);
        sum("5 / 0 + 9", 9);
        sum("-2 * 3 + 10", 4);
        sum("10--3", 13);
        sum("---3 + 10", 7);
        sum("-(2 + 3) + 10", 5);
        sum("min(3, 4) * 10 + max(3, 4)", 34);
        sum("min(-3, 4) + max(-3, 4) + 5", 6);
        sum("min(min(9, 8), max(7, 6))", 7);
        sum("000012", 12);
        sum("999999", 999);
        sum("-1", 0);
        sum("999", 999);
        sum("1000", 999);
        sum("999999*999999+729*1000*1000+379967+7", 7);
        sum("max((2048*1024*1024)/-1 - 2048*1024*1024, 0) + 5", 5);
        sum("(2048*1024*1024)/-1/1024/1024 + 2050", 2);
        sum("-(2048*1024*1024)/1024/1024 + 2050", 2);
        sum("2048*1024*1024-1-2147*1000*1000", 483647 > 999 ? 999 : 483647);
        sum("2048*1024*1024-1-2147*1000*1000-483640", 7);
        sum("dip", 0);
        sum("pull c", 3);
        sum("seed o / 2", 250);
        sum("share a", 192);
        sum("share b", 0);
        sum("height(5, -7)", 500);
        // The row 7 is moved by 2, then all drifts by 3: from column 11, where f is 176 and u 196, 500 + 3 * 20 / 16.
        sum("height(2048*1024*1024, 2048*1024*1024-1)", 503);
        MarbledPaper x = Checks.taught(TOLD + "seed o to dip * 10 when 1 = 1;");
        x.dip(3);
        Checks.due("dip is the number of dips", 20, () -> x.octave(0, 3));
        MarbledPaper y = Checks.taught("paper 4 by 4; octave o across 1 down 1 strength 9 seed 0; ink a from 520; "
            + "drift across by 1; seed o to height(2, 0) when 1 = 1;");
        y.dip(1);
        Checks.due("height goes by what is changed in this dip", 540, () -> y.octave(0, 3));
    }

    private static void test(String test, boolean due) {
        MarbledPaper x = Checks.taught(TOLD + "drift across by 1 when " + test + ";");
        Checks.due("test " + test, due ? 1 : 0, () -> x.dip(1));
    }

    private static void tests() {
        int[][] pairs = {{1, 2}, {2, 2}, {3, 2}};
        for (int[] pair : pairs) {
            String a = pair[0] + " ";
            String b = " " + pair[1];
            test(a + "<" + b, pair[0] < pair[1]);
            test(a + ">" + b, pair[0] > pair[1]);
            test(a + "=" + b, pair[0] == pair[1]);
            test(a + "<=" + b, pair[0] <= pair[1]);
            test(a + ">=" + b, pair[0] >= pair[1]);
        }
        test("-1 < 0", true);
        test("2048*1024*1024 < 0", true);
        test("1 = 1 or 1 = 1 and 1 = 2", true);
        test("[1 = 1 or 1 = 1] and 1 = 2", false);
        test("1 = 2 and 1 = 1 or 1 = 1", true);
        test("1 = 2 and [1 = 1 or 1 = 1]", false);
        test("not 1 = 2 and 1 = 2", false);
        test("not [1 = 2 and 1 = 2]", true);
        test("not 1 = 1 or 1 = 1", true);
        test("not not 1 = 1", true);
        test("not not not 1 = 1", false);
        test("1 = 1 and 1 = 1", true);
        test("1 = 2 or 1 = 2", false);
        test("1 = 2 or 1 = 1", true);
        test("edge a", true);
        test("edge b", false);
        test("not edge b and edge a", true);
        test("pull c = 3 and seed o = 500 and dip = 0", true);
    }
}
