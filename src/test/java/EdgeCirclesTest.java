/** What the document says of the edges of CIRCLES and SPOTS, terms 1 and 2 and promises 14 to 17: each sentence by itself. */
public final class EdgeCirclesTest {
    private static final int NONE = Sheets.NONE, UNKNOWN = Sheets.UNKNOWN, OUTSIDE = Sheets.OUTSIDE, STATE = Sheets.STATE;
    private static final int[] FAR_OFF = {Integer.MIN_VALUE, -65536, -257, -256, -32, 32, 256, 257, 65536, Integer.MAX_VALUE};
    /** From the CENTRE, doubled: one DOT in each OCTANT, in the order of these, all 11.4 off. */
    private static final int[][] AROUND = {{11, 3}, {3, 11}, {-11, 3}, {-3, 11}, {-11, -3}, {-3, -11}, {11, -3}, {3, -11}};
    /** All of the threes of its 14 DOTS VOTE, for 200 SPOTS. */
    private static final String ALL_VOTE = "31x31:f5-ob-a4-l8-sk-74-qe-26-rp-or-3g-1a-6k-lr-";

    private final Checks checks = new Checks();

    public static void main(String[] args) {
        EdgeCirclesTest test = new EdgeCirclesTest();
        test.agreeing();
        test.voting();
        test.supporting();
        test.circles();
        test.votes();
        test.spot();
        test.spots();
        test.checks.end();
    }

    private void agreeing() {
        noTurnAgrees();
        middleAtTheEdgeOfATurn();
        middleBehind();
        centreAtTheEdgeOfATurn();
        centreVeryNear();
    }

    private void voting() {
        threeOnOneLine();
        cellOnTheSheet();
        agreesWithAllThree();
        radiusLowToHigh();
        spotsByVotesFirst();
        spotsThenByRadius();
        spotsThenByRow();
        spotsThenByColumn();
    }

    private void supporting() {
        distanceBySlack();
        distanceBelowNothing();
        supportByTurn();
        octants();
        octantsOnTheSlant();
        spanOfNone();
    }

    // ---- terms 1: AGREES

    /** Offsets of two DOTS from the first one, which lies at 15, 15 with a TURN; the other two have none. */
    private static ArcRings three(int turn, int[] b, int[] c) {
        ArcRings x = Sheets.of("31x31:");
        x.dot(15, 15, turn);
        x.dot(15 + b[0], 15 + b[1], NONE);
        x.dot(15 + c[0], 15 + c[1], NONE);
        return x;
    }

    /** Turned by quarters, and mirrored before that. */
    private static int[] moved(int[] way, int quarters, boolean mirrored) {
        int[] to = {way[0], mirrored ? -way[1] : way[1]};
        for (int i = 0; i < quarters; i++) {
            to = new int[] {-to[1], to[0]};
        }
        return to;
    }

    private static int movedTurn(int turn, int quarters, boolean mirrored) {
        return ((mirrored ? 8 - turn : turn) + 2 * quarters) % 8;
    }

    private void noTurnAgrees() {
        checks.sentence("terms 1: A point AGREES with a DOT, if that has no TURN");
        for (int quarters = 0; quarters < 4; quarters++) {
            ArcRings x = three(NONE, moved(new int[] {-3, 8}, quarters, false), moved(new int[] {7, -3}, quarters, false));
            checks.due("circle(0, 1, 2, 4)", 3, x.circle(0, 1, 2, 4));
            checks.due("circle(0, 1, 2, 0)", 1, x.circle(0, 1, 2, 0));
        }
    }

    /** The MIDDLE as seen from the first DOT; agreeing: bits of the TURNS that AGREE. */
    private void edgeDue(String where, int[] b, int[] c, int agreeing) {
        for (int quarters = 0; quarters < 4; quarters++) {
            for (int mirror = 0; mirror < 2; mirror++) {
                for (int turn = 0; turn < 8; turn++) {
                    boolean mirrored = mirror == 1;
                    int as = movedTurn(turn, quarters, mirrored);
                    ArcRings x = three(as, moved(b, quarters, mirrored), moved(c, quarters, mirrored));
                    boolean agrees = (agreeing >> turn & 1) == 1;
                    String what = where + ", " + quarters + " quarters" + (mirrored ? ", mirrored" : "") + ", TURN " + as;
                    checks.due(what + ": AGREES", agrees ? 3 : 2, x.circle(0, 1, 2, 4));
                    checks.due(what + ": VOTES", agrees ? 1 : 0, x.circle(0, 1, 2, 0));
                    checks.due(what + ": as the last one named", agrees ? 3 : 2, x.circle(2, 1, 0, 4));
                }
            }
        }
    }

    private void middleAtTheEdgeOfATurn() {
        checks.sentence("terms 1: and B is no farther from 0 than A");
        // 5, 5: on the slant itself
        edgeDue("at 5, 5", new int[] {10, 0}, new int[] {0, 10}, 1 | 2 | 4);
        // 683 and 685 by 94
        edgeDue("just beyond the slant", new int[] {-3, 8}, new int[] {7, -3}, 2 | 4);
        edgeDue("just within the slant", new int[] {-3, 7}, new int[] {8, -3}, 1 | 2);
        // 5, 0: straight
        edgeDue("at 5, 0", new int[] {8, 4}, new int[] {8, -4}, 1 | 2 | 128);
        // 163 by 18, 1 by 162 to this side and to that
        edgeDue("just above straight", new int[] {10, -9}, new int[] {8, 9}, 1 | 2);
        edgeDue("just below straight", new int[] {10, 9}, new int[] {8, -9}, 1 | 128);
    }

    private void middleBehind() {
        checks.sentence("terms 1: A is above 0");
        int[][] ways = {{1, 0}, {1, 1}, {0, 1}, {-1, 1}, {-1, 0}, {-1, -1}, {0, -1}, {1, -1}};
        for (int turn = 0; turn < 8; turn++) {
            int far = turn % 2 == 0 ? 5 : 4;
            // the MIDDLE lies straight behind the first DOT: B is 0, A is below 0
            int[] way = {-far * ways[turn][0], -far * ways[turn][1]};
            int[] b = {way[0] - way[1], way[1] + way[0]};
            int[] c = {way[0] + way[1], way[1] - way[0]};
            checks.due("straight behind, TURN " + turn, 2, three(turn, b, c).circle(0, 1, 2, 4));
            checks.due("straight ahead, TURN " + turn, 3, three((turn + 4) % 8, b, c).circle(0, 1, 2, 4));
        }
    }

    /** The place of the SPOT in order, or the number of SPOTS. */
    private static int placeOf(ArcRings x, int cx, int cy, int r) {
        int many = x.spots(0);
        int place = 0;
        while (place < many && (x.spot(place, 0) != cx || x.spot(place, 1) != cy || x.spot(place, 2) != r)) {
            place++;
        }
        return place;
    }

    /** A SPOT 15, 15 of radius 5 by some of AROUND, as bits, and a DOT u, v (doubled) from its CENTRE. */
    private static ArcRings around(int bits, int u, int v, int turn) {
        ArcRings x = Sheets.of("31x31:", 5, 5);
        for (int i = 0; i < 8; i++) {
            if ((bits >> i & 1) == 1) {
                x.dot((31 + AROUND[i][0]) / 2, (31 + AROUND[i][1]) / 2, NONE);
            }
        }
        x.dot((31 + u) / 2, (31 + v) / 2, turn);
        return x;
    }

    private void centreAtTheEdgeOfATurn() {
        checks.sentence("terms 1 and 2: SUPPORTS it, if the CENTRE AGREES with it (at the edge of a TURN)");
        // from the DOT u, v the CENTRE lies at -u, -v; the TURNS that AGREE, as bits
        int[][] rows = {{7, 7, 16 | 32 | 64}, {-7, 7, 1 | 64 | 128}, {-7, -7, 1 | 2 | 4}, {7, -7, 4 | 8 | 16},
            {9, 7, 16 | 32}, {7, 9, 32 | 64}, {-9, 7, 1 | 128}, {-7, 9, 64 | 128}, {-9, -7, 1 | 2}, {-7, -9, 2 | 4},
            {9, -7, 8 | 16}, {7, -9, 4 | 8}, {11, 1, 16 | 32}, {11, -1, 8 | 16}, {1, 11, 32 | 64}, {-1, 11, 64 | 128},
            {-11, 1, 1 | 128}, {-11, -1, 1 | 2}, {1, -11, 4 | 8}, {-1, -11, 2 | 4}};
        for (int[] row : rows) {
            for (int turn = 0; turn < 8; turn++) {
                ArcRings x = around(1 | 8 | 32, row[0], row[1], turn);
                boolean agrees = (row[2] >> turn & 1) == 1;
                int place = placeOf(x, 15, 15, 5);
                checks.due("DOT " + row[0] + ", " + row[1] + " by TURN " + turn, agrees ? 15 : 7, x.spot(place, 6));
            }
        }
    }

    private void centreVeryNear() {
        checks.sentence("terms 1: A is above 0 (by a half)");
        int[] agree = {1, 1, 1, 0, 0, 0, 0, 0};
        for (int turn = 0; turn < 8; turn++) {
            // the CENTRE 5.5, 5.5 lies a half and a half from the last DOT
            ArcRings x = Sheets.of("11x11:45-65-56-55" + turn, 1, 12, 1);
            int place = placeOf(x, 5, 5, 1);
            checks.due("SUPPORTS by TURN " + turn, 7 + 8 * agree[turn], x.spot(place, 6));
        }
    }

    // ---- terms 2: VOTES and the order of SPOTS

    private void threeOnOneLine() {
        checks.sentence("terms 2: Three DOTS that are not on one line have a CIRCLE");
        String[] lines = {"00-01-02-", "00-10-20-", "00-11-22-", "04-13-22-", "00-12-24-", "00-21-42-", "02-35-68-", "80-44-08-"};
        for (String line : lines) {
            ArcRings x = Sheets.of("9x9:" + line);
            checks.due("on a line: " + line, STATE, x.circle(0, 1, 2, 0));
            checks.due("in another order: " + line, STATE, x.circle(2, 0, 1, 3));
            checks.due("CIRCLES: " + line, 0, x.spots(2));
        }
        ArcRings nearly = Sheets.of("31x31:00-fe-uu-");
        checks.due("nearly on a line", 0, nearly.circle(0, 1, 2, 0));
        checks.due("CIRCLES", 1, nearly.spots(2));
    }

    /** By what circle() tells of the one CIRCLE: VOTES, both numbers, RADIUS, AGREEING. */
    private void oneDue(String text, String circle) {
        ArcRings x = Sheets.of(text);
        checks.same("the CIRCLE of " + text, circle, Sheets.circle(x));
        int votes = circle.charAt(0) - '0';
        checks.due("spots(1) of " + text, votes, x.spots(1));
        checks.due("spots(0) of " + text, votes, x.spots(0));
        int cx = x.circle(0, 1, 2, 1);
        int cy = x.circle(0, 1, 2, 2);
        checks.due("votes() of " + text, votes, x.votes(cx, cy, x.circle(0, 1, 2, 3)));
    }

    private void cellOnTheSheet() {
        checks.sentence("terms 2: It VOTES, if the MIDDLE, each number rounded down, is a place of the SHEET");
        oneDue("9x9:54-41-47-", "1 0 4 5 3");
        oneDue("9x9:45-14-74-", "1 4 0 5 3");
        oneDue("9x9:44-31-37-", "0 -1 4 5 3");
        oneDue("9x9:44-13-73-", "0 4 -1 5 3");
        // the MIDDLE is 1 by 26 too far
        oneDue("9x9:00-31-56-", "0 -1 5 5 3");
        oneDue("9x9:00-13-65-", "0 5 -1 5 3");
        // 305 by 34, 3 by 34
        oneDue("9x9:10-57-88-", "1 8 0 7 3");
        oneDue("9x9:01-75-88-", "1 0 8 7 3");
        oneDue("9x9:44-51-57-", "0 9 4 5 3");
        oneDue("10x9:44-51-57-", "1 9 4 5 3");
        oneDue("9x9:44-15-75-", "0 4 9 5 3");
        oneDue("9x10:44-15-75-", "1 4 9 5 3");
        // far off by as many as a place may have: 32 is not 0
        oneDue("31x31:u0-u8-q4-", "1 30 4 4 3");
        oneDue("30x31:t0-t8-p4-", "1 29 4 4 3");
        oneDue("31x31:0u-8u-4q-", "1 4 30 4 3");
        oneDue("31x31:n4-q0-q8-", "1 27 4 4 3");
        oneDue("31x9:u0-u8-s4-", "0 33 4 5 3");
        oneDue("9x31:0u-8u-4s-", "0 4 33 5 3");
    }

    private void agreesWithAllThree() {
        checks.sentence("terms 2: the MIDDLE AGREES with all three");
        for (int bits = 0; bits < 8; bits++) {
            String text = "31x31:0a" + (bits & 1) * 4 + "ka" + (4 - (bits >> 1 & 1) * 4) + "a0" + (2 + (bits >> 2 & 1) * 4);
            oneDue(text, (bits == 0 ? 1 : 0) + " 10 10 10 " + (3 - Integer.bitCount(bits)));
        }
    }

    private void radiusDue(String text, int low, int high, int votes) {
        ArcRings x = Sheets.of(text, low, high);
        checks.due(text + " VOTES by " + low + " to " + high, votes, x.circle(0, 1, 2, 0));
        checks.due(text + " spots(1) by " + low + " to " + high, votes, x.spots(1));
        checks.due(text + " RADIUS is the same", Sheets.of(text).circle(0, 1, 2, 3), x.circle(0, 1, 2, 3));
    }

    private void radiusLowToHigh() {
        checks.sentence("terms 2: the RADIUS, rounded down, is LOW to HIGH");
        for (int r = 1; r <= 15; r++) {
            // just r, by three DOTS round 15, 15
            String text = "31x31:" + Sheets.dot(15 - r, 15, NONE) + Sheets.dot(15 + r, 15, NONE) + Sheets.dot(15, 15 - r, NONE);
            radiusDue(text, r, r, 1);
            radiusDue(text, 1, r, 1);
            radiusDue(text, r, 22, 1);
            radiusDue(text, r + 1, 22, 0);
            if (r > 1) {
                radiusDue(text, 1, r - 1, 0);
            }
        }
        // 3.99 and 5.98
        int[][] nearly = {{3, 3}, {5, 5}};
        String[] texts = {"9x9:00-61-27-", "9x9:00-51-78-"};
        for (int i = 0; i < 2; i++) {
            int r = nearly[i][0];
            radiusDue(texts[i], r, r, 1);
            radiusDue(texts[i], r + 1, 22, 0);
            radiusDue(texts[i], 1, r - 1, 0);
        }
        // 0.71 is 0, which no LOW may be
        radiusDue("9x9:00-10-01-", 1, 22, 0);
        // as HIGH may be 22 at most: 21.9994, 22.00001, 22.9993, 23.00001
        String[] far = {"31x31:11-su-e1-", "31x31:6l-6n-s0-", "31x31:h6-5j-ba-", "31x31:r3-4p-4r-"};
        int[] most = {21, 22, 22, 23};
        for (int i = 0; i < 4; i++) {
            checks.due("RADIUS of " + far[i], most[i], Sheets.of(far[i]).circle(0, 1, 2, 3));
            radiusDue(far[i], 1, 22, most[i] <= 22 ? 1 : 0);
            radiusDue(far[i], 22, 22, most[i] == 22 ? 1 : 0);
            radiusDue(far[i], 1, 21, most[i] == 21 ? 1 : 0);
        }
    }

    private void orderDue(String text, int[] bounds, String first) {
        ArcRings x = Sheets.of(text, bounds);
        String all = Sheets.spots(x);
        checks.holds(text + ": the SPOTS begin with " + first + ", they are " + all, all.startsWith(first));
    }

    private void spotsByVotesFirst() {
        checks.sentence("terms 2: Order of SPOTS: of more VOTES first");
        orderDue("7x7:00-30-64-06-43-", new int[] {2, 12}, "2,3,3*2 ");
        orderDue("11x14:2d-a4-40-02-29-00-", new int[] {2, 12}, "3,6,6*2 ");
    }

    private void spotsThenByRadius() {
        checks.sentence("terms 2: then of lesser r");
        // both by one VOTE; the second lies in an upper row
        ArcRings x = Sheets.of("12x9:03-a1-73-12-58-");
        checks.holds("3,5,3 ahead of 5,2,5", placeOf(x, 3, 5, 3) < placeOf(x, 5, 2, 5) && placeOf(x, 5, 2, 5) < x.spots(0));
        checks.due("VOTES", x.votes(3, 5, 3), x.votes(5, 2, 5));
    }

    private void spotsThenByRow() {
        checks.sentence("terms 2: then of lesser cy");
        ArcRings x = Sheets.of("12x14:33-6a-a3-88-96-");
        checks.holds("6,4,3 ahead of 5,6,3", placeOf(x, 6, 4, 3) < placeOf(x, 5, 6, 3) && placeOf(x, 5, 6, 3) < x.spots(0));
        checks.due("VOTES", x.votes(6, 4, 3), x.votes(5, 6, 3));
    }

    private void spotsThenByColumn() {
        checks.sentence("terms 2: then of lesser cx");
        ArcRings x = Sheets.of("10x9:68-02-91-21-88-");
        checks.due("4,3,4 ahead of 5,3,4", placeOf(x, 4, 3, 4) + 1, placeOf(x, 5, 3, 4));
        checks.due("VOTES", x.votes(4, 3, 4), x.votes(5, 3, 4));
        // round 3, 3 and round 13, 3, a VOTE each; the DOTS of the right one came first
        orderDue("31x31:a30d02g34030302634", new int[] {2, 3}, "3,3,3*1 13,3,3*1");
    }

    // ---- terms 2: SUPPORTS, OCTANT, SPAN

    private void distanceBySlack() {
        checks.sentence("terms 2: its distance from the CENTRE, doubled, is 2 r less SLACK to 2 r and 2 and SLACK");
        // u, v, and the least SLACK by which it is within 10 to 12 (5: by none)
        int[][] rows = {{9, 5, 0}, {11, 1, 0}, {9, 7, 0}, {7, 7, 1}, {9, 1, 1}, {9, 3, 1}, {11, 5, 1}, {9, 9, 1},
            {7, 5, 2}, {11, 7, 2}, {13, 1, 2}, {13, 5, 2}, {7, 3, 3}, {7, 1, 3}, {5, 5, 3}, {11, 9, 3}, {13, 7, 3},
            {5, 3, 5}, {15, 1, 4}, {15, 5, 4}, {13, 9, 4}, {15, 7, 5}, {13, 11, 5}, {1, 1, 5}, {3, 5, 5}};
        for (int[] row : rows) {
            for (int slack = 0; slack <= 4; slack++) {
                for (int side = 0; side < 4; side++) {
                    ArcRings x = around(1 | 8 | 32, side % 2 == 0 ? row[0] : -row[0], side < 2 ? row[1] : -row[1], NONE);
                    x.bound(2, slack);
                    int want = slack >= row[2] ? 4 : 3;
                    checks.due("DOT " + row[0] + ", " + row[1] + " by SLACK " + slack, want, x.spot(placeOf(x, 15, 15, 5), 4));
                }
            }
        }
    }

    private void distanceBelowNothing() {
        checks.sentence("terms 2: 2 r less SLACK (below 0)");
        // r is 1; the last DOT is 1.4 off, doubled, as are the second and the third; the first is 3.2 off
        int[] bits = {1, 15, 15, 15, 15};
        for (int slack = 0; slack <= 4; slack++) {
            ArcRings x = Sheets.of("11x11:45-65-56-55-", 1, 12, slack);
            checks.due("SUPPORTERS by SLACK " + slack, bits[slack], x.spot(placeOf(x, 5, 5, 1), 6));
        }
        // 7.6 off, doubled, and 8.6 off
        checks.due("within 8", 15, bitsOfOne("11x11:45-65-56-97-", 4));
        checks.due("beyond 7", 7, bitsOfOne("11x11:45-65-56-97-", 3));
        checks.due("beyond 8", 7, bitsOfOne("11x11:45-65-56-98-", 4));
    }

    private static int bitsOfOne(String text, int slack) {
        ArcRings x = Sheets.of(text, 1, 1, slack);
        return x.spot(placeOf(x, 5, 5, 1), 6);
    }

    private void supportByTurn() {
        checks.sentence("terms 2: A DOT SUPPORTS it, if the CENTRE AGREES with it (not the MIDDLE)");
        // the MIDDLE 15, 15 lies straight from the first DOT, at the edge of TURNS 1 and 7; the CENTRE is aside of 7
        int[] turns = {0, 1, 7};
        int[] bits = {7, 7, 6};
        for (int i = 0; i < 3; i++) {
            ArcRings x = Sheets.of("31x31:5f" + turns[i] + "pf-f5-");
            checks.due("VOTES by TURN " + turns[i], 1, x.votes(15, 15, 10));
            checks.due("SUPPORTERS by TURN " + turns[i], bits[i], x.spot(0, 6));
            checks.due("how many by TURN " + turns[i], Integer.bitCount(bits[i]), x.spot(0, 4));
            checks.due("SPAN by TURN " + turns[i], Integer.bitCount(bits[i]), x.spot(0, 5));
        }
    }

    private void octants() {
        checks.sentence("terms 2: OCTANT of a DOT; SPAN: in how many OCTANTS any of them lies");
        for (int bits = 0; bits < 256; bits++) {
            if (Integer.bitCount(bits) < 2) {
                continue;
            }
            for (int last = 0; last < 8; last++) {
                if ((bits >> last & 1) == 0) {
                    ArcRings x = around(bits, AROUND[last][0], AROUND[last][1], NONE);
                    checks.due("SPAN of " + bits + " and " + last, Integer.bitCount(bits) + 1, x.spot(0, 5));
                }
            }
        }
        // two in one OCTANT count once
        int[][] beside = {{11, 1}, {1, 11}, {-11, 1}, {-1, 11}, {-11, -1}, {-1, -11}, {11, -1}, {1, -11}};
        for (int octant = 0; octant < 8; octant++) {
            for (int bits : new int[] {1 | 8 | 32, 2 | 4 | 64, 1 | 16 | 128}) {
                ArcRings x = around(bits, beside[octant][0], beside[octant][1], NONE);
                int place = placeOf(x, 15, 15, 5);
                int want = Integer.bitCount(bits | 1 << octant);
                checks.due("SPAN of " + bits + " and one beside " + octant, want, x.spot(place, 5));
                checks.due("DOTS of " + bits + " and one beside " + octant, 4, x.spot(place, 4));
            }
        }
    }

    private void octantsOnTheSlant() {
        checks.sentence("terms 2: one more, if V is farther from 0 than U (as far is not farther)");
        int[][] slants = {{9, 9}, {-9, 9}, {-9, -9}, {9, -9}};
        for (int quarter = 0; quarter < 4; quarter++) {
            for (int bits : new int[] {1 | 8 | 32, 2 | 4 | 64, 1 | 16 | 128, 2 | 16 | 64, 4 | 32 | 128}) {
                ArcRings x = around(bits, slants[quarter][0], slants[quarter][1], NONE);
                int place = placeOf(x, 15, 15, 5);
                int want = Integer.bitCount(bits | 1 << 2 * quarter);
                checks.due("SPAN of " + bits + " and a slanting one, " + quarter, want, x.spot(place, 5));
            }
        }
    }

    private void spanOfNone() {
        checks.sentence("16: how many DOTS SUPPORT it, the SPAN of these (none does)");
        ArcRings x = Sheets.of("9x9:00-02-34-", 2, 12, 0, 2, 1);
        int[] want = {2, 1, 3, 1, 0, 0, 0};
        for (int what = 0; what < 7; what++) {
            checks.due("spot(0, " + what + ")", want[what], x.spot(0, what));
        }
        checks.due("hunt()", 0, x.hunt());
        x.bound(2, 1);
        checks.due("SUPPORTERS by SLACK 1", 7, x.spot(0, 6));
    }

    // ---- 14

    private void circles() {
        circleRoundsDown();
        circleOfTheOnesNamed();
        circleUnknown();
        circleOutside();
        circleOnALine();
    }

    private void circleRoundsDown() {
        checks.sentence("14: its MIDDLE, rounded down, .. the RADIUS, rounded down");
        oneDue("31x31:00-13-06-", "0 -4 3 5 3");
        oneDue("9x9:00-23-06-", "0 -2 3 3 3");
        oneDue("9x9:00-32-60-", "0 3 -2 3 3");
        oneDue("31x31:00-f1-u1-", "0 22 -225 225 3");
        oneDue("31x31:00-un-da-", "0 4051 -5254 6634 3");
        oneDue("4x4:00-10-01-", "0 0 0 0 3");
        oneDue("31x31:00-u0-0u-", "0 15 15 21 3");
    }

    private void circleOfTheOnesNamed() {
        checks.sentence("14: Of the CIRCLE of three DOTS (the first and the last of 14)");
        ArcRings x = Sheets.of(Sheets.ROUND_ABOUT);
        checks.due("circle(0, 12, 13, 1)", 15, x.circle(0, 12, 13, 1));
        checks.due("circle(13, 0, 1, 2)", 15, x.circle(13, 0, 1, 2));
        checks.due("circle(12, 13, 0, 3)", 8, x.circle(12, 13, 0, 3));
        checks.due("circle(11, 12, 13, 4)", 3, x.circle(11, 12, 13, 4));
        checks.due("circle(0, 1, 13, 0)", 1, x.circle(0, 1, 13, 0));
    }

    private void circleUnknown() {
        checks.sentence("14: UNKNOWN: a, b, c (three unlike DOTS; or no SHEET); ahead of OUTSIDE and STATE");
        ArcRings none = new ArcRings();
        ArcRings empty = Sheets.of("9x9:");
        ArcRings two = Sheets.of("9x9:00-11-");
        ArcRings four = Sheets.of("9x9:00-11-22-33-");
        for (int what : new int[] {0, 4, 5, -1}) {
            checks.due("no SHEET", UNKNOWN, none.circle(0, 1, 2, what));
            checks.due("no DOTS", UNKNOWN, empty.circle(0, 1, 2, what));
            checks.due("two DOTS", UNKNOWN, two.circle(0, 1, 2, what));
            checks.due("two DOTS, one twice", UNKNOWN, two.circle(0, 1, 1, what));
        }
        int[][] wrong = {{0, 0, 0}, {0, 0, 1}, {0, 1, 0}, {1, 0, 0}, {-1, 0, 1}, {0, -1, 1}, {0, 1, -1}, {4, 0, 1}, {0, 4, 1},
            {0, 1, 4}, {-1, -1, -1}, {4, 4, 4}};
        for (int[] w : wrong) {
            for (int what : new int[] {0, 4, 5, -1}) {
                checks.due("circle(" + Sheets.words(w) + ", " + what + ")", UNKNOWN, four.circle(w[0], w[1], w[2], what));
            }
        }
        for (int far : FAR_OFF) {
            checks.due("a " + far, UNKNOWN, four.circle(far, 1, 2, 0));
            checks.due("b " + far, UNKNOWN, four.circle(0, far, 2, 0));
            checks.due("c " + far, UNKNOWN, four.circle(0, 1, far, 0));
        }
    }

    private void circleOutside() {
        checks.sentence("14: OUTSIDE: what (0 to 4); ahead of STATE");
        ArcRings x = Sheets.of("9x9:00-11-22-50-");
        for (int what : new int[] {-1, -2, 5, 6, 7, Integer.MIN_VALUE, Integer.MAX_VALUE}) {
            checks.due("circle(0, 1, 3, " + what + ")", OUTSIDE, x.circle(0, 1, 3, what));
            checks.due("on a line: circle(0, 1, 2, " + what + ")", OUTSIDE, x.circle(0, 1, 2, what));
        }
    }

    private void circleOnALine() {
        checks.sentence("14: STATE: they are on one line");
        ArcRings x = Sheets.of("9x9:00-11-22-50-");
        for (int what = 0; what <= 4; what++) {
            checks.due("circle(0, 1, 2, " + what + ")", STATE, x.circle(0, 1, 2, what));
            checks.due("circle(2, 1, 0, " + what + ")", STATE, x.circle(2, 1, 0, what));
            checks.holds("circle(0, 1, 3, " + what + ")", x.circle(0, 1, 3, what) > -10);
        }
    }

    // ---- 15

    private void votes() {
        votesOfNone();
        votesOfAll();
        votesNoSheet();
    }

    private void votesOfNone() {
        checks.sentence("15: How many VOTE for a SPOT (0: it is none)");
        ArcRings x = Sheets.of(Sheets.WHOLE);
        checks.due("votes(10, 10, 5)", 56, x.votes(10, 10, 5));
        for (int off : new int[] {-1, 1, -32, 32, -64, 64, -1024, 1024, 1 << 15, 1 << 20, 1 << 30}) {
            checks.due("cx off by " + off, 0, x.votes(10 + off, 10, 5));
            checks.due("cy off by " + off, 0, x.votes(10, 10 + off, 5));
            checks.due("r off by " + off, 0, x.votes(10, 10, 5 + off));
            checks.due("cx off by " + off + ", cy by 1", 0, x.votes(10 + off, 9, 5) + x.votes(10 + off, 11, 5));
            checks.due("cy off by " + off + ", r by 1", 0, x.votes(10, 10 + off, 4) + x.votes(10, 10 + off, 6));
        }
        for (int far : FAR_OFF) {
            checks.due("far off", 0, x.votes(far, 10, 5) + x.votes(10, far, 5) + x.votes(10, 10, far) + x.votes(far, far, far));
        }
        checks.due("votes(0, 0, 0)", 0, x.votes(0, 0, 0));
        checks.due("votes(-1, -1, -1)", 0, x.votes(-1, -1, -1));
        ArcRings empty = Sheets.of("9x9:");
        checks.due("votes(0, 0, 0) without DOTS", 0, empty.votes(0, 0, 0));
        checks.due("votes(4, 4, 2) without DOTS", 0, empty.votes(4, 4, 2));
    }

    private void votesOfAll() {
        checks.sentence("15: How many VOTE for a SPOT (all threes of 14 DOTS)");
        ArcRings x = Sheets.of(Sheets.ROUND_ABOUT);
        checks.due("votes(15, 15, 8)", 364, x.votes(15, 15, 8));
        checks.same("SPOTS", "15,15,8*364", Sheets.spots(x));
        x.lift(0);
        checks.due("votes(15, 15, 8) of 13", 286, x.votes(15, 15, 8));
        while (x.count(0) > 3) {
            x.lift(0);
        }
        checks.due("votes(15, 15, 8) of 3", 1, x.votes(15, 15, 8));
        x.lift(0);
        checks.due("votes(15, 15, 8) of 2", 0, x.votes(15, 15, 8));
    }

    private void votesNoSheet() {
        checks.sentence("15: STATE: no SHEET");
        ArcRings x = new ArcRings();
        checks.due("votes(0, 0, 2)", STATE, x.votes(0, 0, 2));
        checks.due("votes(-1, 99, 0)", STATE, x.votes(-1, 99, 0));
    }

    // ---- 16

    private void spot() {
        spotUnknown();
        spotOutside();
        spotLast();
    }

    private void spotUnknown() {
        checks.sentence("16: UNKNOWN: place (or no SHEET); ahead of OUTSIDE");
        String[] without = {"9x9:", "9x9:00-", "9x9:00-05-", "9x9:00-11-22-33-"};
        for (int what : new int[] {0, 6, 7, -1}) {
            checks.due("no SHEET", UNKNOWN, new ArcRings().spot(0, what));
            for (String text : without) {
                checks.due(text + " spot(0, " + what + ")", UNKNOWN, Sheets.of(text).spot(0, what));
            }
            ArcRings x = Sheets.of(Sheets.WHOLE);
            for (int place : new int[] {-1, 1, 2, 363, 364, 365}) {
                checks.due("spot(" + place + ", " + what + ")", UNKNOWN, x.spot(place, what));
            }
            for (int far : FAR_OFF) {
                checks.due("spot(" + far + ", " + what + ")", UNKNOWN, x.spot(far, what));
            }
        }
    }

    private void spotOutside() {
        checks.sentence("16: OUTSIDE: what (0 to 6)");
        ArcRings x = Sheets.of(Sheets.WHOLE);
        for (int what : new int[] {-1, -2, 7, 8, Integer.MIN_VALUE, Integer.MAX_VALUE}) {
            checks.due("spot(0, " + what + ")", OUTSIDE, x.spot(0, what));
        }
        checks.due("spot(0, 0)", 10, x.spot(0, 0));
        checks.due("spot(0, 6)", 255, x.spot(0, 6));
    }

    private void spotLast() {
        checks.sentence("16: Of the SPOT at a place in order (the last of many)");
        ArcRings x = Sheets.of(ALL_VOTE, 1, 22);
        int many = x.spots(0);
        int votes = 0;
        for (int place = 0; place < many; place++) {
            votes += x.spot(place, 3);
        }
        checks.due("VOTES of all SPOTS", 364, votes);
        checks.due("VOTES of the last", 1, x.spot(many - 1, 3));
        checks.due("behind the last", UNKNOWN, x.spot(many, 3));
    }

    // ---- 17

    private void spots() {
        spotsOfNone();
        spotsOfAll();
        spotsWithTheMost();
        spotsOutside();
        spotsNoSheet();
    }

    private void totalsDue(ArcRings x, String what, int... want) {
        checks.same("spots() of " + what, Sheets.words(want), Sheets.words(x.spots(0), x.spots(1), x.spots(2), x.spots(3)));
    }

    private void spotsOfNone() {
        checks.sentence("17: how many SPOTS, CIRCLES that VOTE, threes on no line, SPOTS with the most VOTES (none)");
        totalsDue(Sheets.of("9x9:"), "no DOTS", 0, 0, 0, 0);
        totalsDue(Sheets.of("9x9:00-"), "one DOT", 0, 0, 0, 0);
        totalsDue(Sheets.of("9x9:00-50-"), "two DOTS", 0, 0, 0, 0);
        totalsDue(Sheets.of("9x9:00-50-05-"), "three DOTS", 1, 1, 1, 1);
        totalsDue(Sheets.of("9x9:00-11-22-33-44-55-66-77-88-"), "a line", 0, 0, 0, 0);
        totalsDue(Sheets.of("9x9:00-50-05-", 4, 22), "three DOTS, too small a RADIUS", 0, 0, 1, 0);
    }

    private void spotsOfAll() {
        checks.sentence("17: how many (all threes of 14 DOTS)");
        totalsDue(Sheets.of(Sheets.ROUND_ABOUT), "one CIRCLE", 1, 364, 364, 1);
        ArcRings x = Sheets.of(ALL_VOTE, 1, 22);
        checks.due("spots(0)", 200, x.spots(0));
        checks.due("spots(1)", 364, x.spots(1));
        checks.due("spots(2)", 364, x.spots(2));
        totalsDue(Sheets.of(Sheets.CROWDED), "one column", 0, 0, 0, 0);
    }

    private void spotsWithTheMost() {
        checks.sentence("17: 3 how many SPOTS have the most VOTES");
        totalsDue(Sheets.of("31x31:a30d02g34030302634", 2, 3), "two with one VOTE each", 2, 2, 16, 2);
        ArcRings x = Sheets.of("7x7:00-30-64-06-43-");
        int most = x.spot(0, 3);
        int with = 0;
        for (int place = 0; place < x.spots(0); place++) {
            with += x.spot(place, 3) == most ? 1 : 0;
        }
        checks.due("the most VOTES", 2, most);
        checks.due("spots(3)", with, x.spots(3));
        checks.holds("fewer than all", with < x.spots(0));
    }

    private void spotsOutside() {
        checks.sentence("17: OUTSIDE: what (0 to 3)");
        ArcRings x = Sheets.of(Sheets.WHOLE);
        for (int what : new int[] {-1, -2, 4, 5, Integer.MIN_VALUE, Integer.MAX_VALUE}) {
            checks.due("spots(" + what + ")", OUTSIDE, x.spots(what));
        }
    }

    private void spotsNoSheet() {
        checks.sentence("17: OUTSIDE, then STATE: no SHEET");
        ArcRings x = new ArcRings();
        for (int what = -2; what <= 5; what++) {
            checks.due("spots(" + what + ")", what < 0 || what > 3 ? OUTSIDE : STATE, x.spots(what));
        }
    }
}
