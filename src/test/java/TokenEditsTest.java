import java.util.ArrayList;
import java.util.List;

/**
 * A right list, in which each token is left out, doubled, and each of many others is put into its place
 * and ahead of it: the error and its place are asked of the class and of the document's plain retelling.
 */
public final class TokenEditsTest {
    private static final String LIST = "paper 5 by 24 ; octave o across 8 down 1 strength 9 seed 999 ; "
        + "comb c across teeth 8 pull 16 ; ink a from 0 ; ink b from 1 ; "
        + "pull c to pull c + seed o - dip when share a < 1 or edge a and not 2 >= 3 ; "
        + "drift across by min ( 1 , 2 ) * ( ( ( ( ( ( ( - 4 ) ) ) ) ) ) ) / height ( 6 , 7 ) ; "
        + "drift down by 1 when [ 1 = 1 ] or not not not not not not not - 8 > 9 ; seed o to max ( 1 , 2 ) when 1 <= 2 ;";
    private static final String OTHERS = "paper by octave across down strength seed comb teeth pull ink from drift to when "
        + "dip share height edge not and or min max ( ) [ ] ; , + - * / < > = <= >= a b c o x 0 1 3 4 8 9 10 16 17 24 25 "
        + "999 1000 1234567 abcdefghijk ! A";

    private TokenEditsTest() {
    }

    public static void main(String[] args) {
        List<String> tokens = List.of(LIST.split(" "));
        same(tokens);
        for (int k = 0; k < tokens.size(); k++) {
            List<String> without = new ArrayList<>(tokens);
            without.remove(k);
            same(without);
            for (String other : OTHERS.split(" ")) {
                List<String> replaced = new ArrayList<>(tokens);
                replaced.set(k, other);
                same(replaced);
                List<String> inserted = new ArrayList<>(tokens);
                inserted.add(k, other);
                same(inserted);
            }
        }
        Checks.close("TokenEditsTest");
    }

    private static void same(List<String> tokens) {
        String list = String.join(" ", tokens);
        MarbledPaper paper = new MarbledPaper();
        PlainPaper plain = new PlainPaper();
        Checks.write(paper, list);
        Checks.write(plain, list);
        Checks.due("teach " + list, plain.teach(), paper::teach);
        Checks.due("errorAt " + list, plain.errorAt(), paper::errorAt);
    }
}
