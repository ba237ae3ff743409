/** Objects with a SHEET, and what they tell, as the tests of edges and refusals need them. */
final class Sheets {
    static final int NONE = -1, UNKNOWN = -101, OUTSIDE = -102, STATE = -103, FULL = -104;

    /** Eight DOTS truly round the CENTRE 10.5, 10.5, one in each OCTANT, in the order of these. */
    static final String WHOLE = "31x31:gc-cg-9g-5c-59-95-c5-g9-";
    /** As many DOTS as a SHEET may have, in one column. */
    static final String CROWDED = "31x31:00-01-02-03-04-05-06-07-08-09-0a-0b-0c-0d-";
    /** 14 DOTS at the same distance from 15, 15: all of their threes have one CIRCLE. */
    static final String ROUND_ABOUT = "31x31:ng-ne-7g-7e-mj-mb-8j-8b-gn-en-g7-e7-jm-bm-";
    /** By SHRINKING_BOUNDS six RINGS are KEPT, and three of them given up by SPLIT. */
    static final String SHRINKING = "15x21:8g5611e533j-e11ae59d068-9b7cj3bh3ai-d62ad7";
    static final int[] SHRINKING_BOUNDS = {1, 22, 1, 2, 1};
    private static final String SIGNS = "0123456789abcdefghijklmnopqrstu";

    private Sheets() {
    }

    static void type(ArcRings x, String text) {
        for (int i = 0; i < text.length(); i++) {
            x.letter(text.charAt(i));
        }
    }

    static ArcRings paged(String text) {
        ArcRings x = new ArcRings();
        type(x, text);
        return x;
    }

    static ArcRings of(String text) {
        ArcRings x = paged(text);
        if (x.sheet() < 0) {
            throw new IllegalStateException("no SHEET: " + text);
        }
        return x;
    }

    /** LOW, HIGH, SLACK, NEED, ROUND. */
    static ArcRings of(String text, int... bounds) {
        ArcRings x = of(text);
        x.bound(1, 22);
        for (int what = 0; what < bounds.length; what++) {
            if (x.bound(what, bounds[what]) < 0) {
                throw new IllegalStateException("no bound " + what + ": " + bounds[what]);
            }
        }
        return x;
    }

    /** DOTS at the four corners u, v (doubled, odd) of a CENTRE, each turned across to it. */
    static void four(ArcRings x, int cx, int cy, int u, int v) {
        int[][] corners = {{1, 1}, {-1, 1}, {-1, -1}, {1, -1}};
        for (int[] corner : corners) {
            x.dot((2 * cx + 1 + corner[0] * u) / 2, (2 * cy + 1 + corner[1] * v) / 2, corner[0] > 0 ? 4 : 0);
        }
    }

    static String textOf(ArcRings x) {
        StringBuilder text = new StringBuilder();
        int code = x.ink(0);
        while (code >= 0 && text.length() < 60) {
            text.append((char) code);
            code = x.ink(text.length());
        }
        return text.toString();
    }

    /** "x" and "y" as a text has them, with a TURN or "-". */
    static String dot(int x, int y, int turn) {
        return "" + SIGNS.charAt(x) + SIGNS.charAt(y) + (turn == NONE ? "-" : "" + turn);
    }

    /** W, H, how many DOTS, LOW, HIGH, SLACK, NEED, ROUND. */
    static String abouts(ArcRings x) {
        StringBuilder all = new StringBuilder();
        for (int what = 0; what < 8; what++) {
            all.append(x.about(what)).append(' ');
        }
        return all.toString().trim();
    }

    static String counts(ArcRings x) {
        StringBuilder all = new StringBuilder();
        for (int what = 0; what < 7; what++) {
            all.append(x.count(what)).append(' ');
        }
        return all.toString().trim();
    }

    /** Of each SPOT "cx,cy,r*VOTES", in order. */
    static String spots(ArcRings x) {
        StringBuilder all = new StringBuilder();
        int many = x.spots(0);
        for (int i = 0; i < many; i++) {
            all.append(x.spot(i, 0)).append(',').append(x.spot(i, 1)).append(',').append(x.spot(i, 2));
            all.append('*').append(x.spot(i, 3)).append(' ');
        }
        return all.toString().trim();
    }

    /** Of each RING "cx,cy,r:" and its own DOTS as bits, in order. */
    static String rings(ArcRings x) {
        StringBuilder all = new StringBuilder();
        int many = x.count(1);
        for (int i = 0; i < many; i++) {
            all.append(x.ring(i, 0)).append(',').append(x.ring(i, 1)).append(',').append(x.ring(i, 2));
            all.append(':').append(x.ring(i, 4)).append(' ');
        }
        return all.toString().trim();
    }

    /** What circle() tells of the first three DOTS. */
    static String circle(ArcRings x) {
        StringBuilder all = new StringBuilder();
        for (int what = 0; what < 5; what++) {
            all.append(x.circle(0, 1, 2, what)).append(' ');
        }
        return all.toString().trim();
    }

    static String words(int... numbers) {
        StringBuilder all = new StringBuilder();
        for (int number : numbers) {
            all.append(number).append(' ');
        }
        return all.toString().trim();
    }
}
