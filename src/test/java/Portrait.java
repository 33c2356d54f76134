/**
 * All that a paper answers, as one text, so that two papers can be said to be the same: first by calls
 * that change nothing, then what dips and what the tape holds make of it. It takes some 300 calls for a
 * paper of 20 spots.
 */
final class Portrait {
    private final MarbledPaper paper;
    private final StringBuilder text = new StringBuilder();

    private Portrait(MarbledPaper paper) {
        this.paper = paper;
    }

    static String of(MarbledPaper paper) {
        Portrait portrait = new Portrait(paper);
        portrait.counts();
        portrait.parts();
        portrait.spots();
        portrait.future();
        portrait.tape();
        return portrait.text.toString();
    }

    private void add(long number) {
        text.append(number).append(' ');
    }

    private void counts() {
        text.append("errorAt ").append(paper.errorAt()).append(" counts ");
        for (int what = 0; what <= 14; what++) {
            add(paper.count(what));
        }
    }

    private void parts() {
        text.append("octaves ");
        for (int octave = 0; octave < paper.count(3); octave++) {
            for (int what = 0; what < 4; what++) {
                add(paper.octave(octave, what));
            }
            for (int corner = 0; corner <= 8; corner++) {
                add(paper.gradient(octave, corner, 8 - corner));
            }
            add(paper.value(octave, 1, 2));
        }
        text.append("combs ");
        for (int comb = 0; comb < paper.count(4); comb++) {
            for (int what = 0; what < 3; what++) {
                add(paper.comb(comb, what));
            }
            for (int line = 0; line < 5; line++) {
                add(paper.moves(comb, line));
            }
        }
    }

    private void spots() {
        text.append("spots ");
        int columns = paper.count(1);
        for (int spot = 0; spot < Math.min(20, columns * paper.count(2)); spot++) {
            add(paper.height(spot % columns, spot / columns));
            add(paper.ink(spot % columns, spot / columns));
            add(paper.patch(spot % columns, spot / columns));
            add(paper.whence(spot % columns, spot / columns));
        }
        text.append("shares ");
        for (int ink = 0; ink <= paper.count(5); ink++) {
            add(paper.share(ink));
        }
        text.append("mean ").append(paper.mean()).append(" digest ");
        add(paper.digest());
    }

    private void future() {
        text.append("foresee ");
        for (int what = 7; what <= 13; what++) {
            add(paper.foresee(1, what));
            add(paper.foresee(20, what));
        }
        text.append("until ");
        for (int ink = 0; ink <= paper.count(5); ink++) {
            add(paper.until(1, 1, ink));
        }
        text.append("advise ");
        for (int comb = 0; comb < paper.count(4); comb++) {
            add(paper.advise(comb));
        }
        text.append("dip ");
        add(paper.dip(1));
        add(paper.dip(2));
        add(paper.digest());
    }

    private void tape() {
        text.append("teach ");
        add(paper.teach());
        add(paper.errorAt());
        add(paper.digest());
    }
}
