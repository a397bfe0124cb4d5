/** All that can be seen of a province by calls that alter nothing. */
final class Seen {
    private Seen() { }

    /** But for the acts that are remembered. */
    static String all(SnowNames x) {
        StringBuilder b = new StringBuilder();
        for (int what = 0; what < 12; what++) {
            b.append(x.count(what)).append(' ');
        }
        for (int f = 0; f < x.count(0); f++) {
            for (int what = 0; what < 5; what++) {
                b.append(x.field(f, what)).append(' ');
            }
        }
        for (int p = 0; p < x.count(1); p++) {
            for (int what = 0; what < 9; what++) {
                b.append(x.person(p, what)).append(' ');
            }
            for (int i = 0; i < 24; i++) {
                b.append(x.letter(p, i / 4, i % 4)).append(' ');
            }
        }
        for (int i = 0; i < 3 * x.count(2); i++) {
            b.append(x.debt(i / 3, i % 3)).append(' ');
        }
        for (int i = 0; i < 4 * x.count(11); i++) {
            b.append(x.log(i / 4, i % 4)).append(' ');
        }
        int seed = x.seed(0);
        x.seed(seed);
        return b.append(seed).toString();
    }

    /** The seed after so many draws from one. */
    static int seedAfter(int seed, int draws) {
        int now = seed;
        for (int i = 0; i < draws; i++) {
            now = 1103515245 * now + 12345;
        }
        return now;
    }
}
