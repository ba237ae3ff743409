/** What the document says of the edges of promises 7 to 13, DOTS and bounds: each sentence by itself. */
public final class EdgeDotsTest {
    private static final int NONE = Sheets.NONE, UNKNOWN = Sheets.UNKNOWN, OUTSIDE = Sheets.OUTSIDE;
    private static final int STATE = Sheets.STATE, FULL = Sheets.FULL;
    private static final int[] FAR_OFF = {Integer.MIN_VALUE, -65536, -257, -256, 256, 257, 65536, Integer.MAX_VALUE};
    private static final int[][] POINTS = {{1, 0}, {1, 1}, {0, 1}, {-1, 1}, {-1, 0}, {-1, -1}, {0, -1}, {1, -1}};
    /** By r from 0: the greatest number whose square, doubled, is r times r at most, counted by hand. */
    private static final int[] SLANTING = {0, 0, 1, 2, 2, 3, 4, 4, 5, 6, 7, 7, 8, 9, 9, 10, 11, 12, 12, 13, 14, 14, 15, 16,
        16, 17, 18, 19, 19, 20, 21, 21};

    private final Checks checks = new Checks();

    public static void main(String[] args) {
        EdgeDotsTest test = new EdgeDotsTest();
        test.dots();
        test.lifts();
        test.arcs();
        test.strewn();
        test.toldAndAbout();
        test.bounds();
        test.checks.end();
    }

    private void dots() {
        dotOffTheSheet();
        dotTurns();
        dotWhereOneLies();
        dotFull();
        dotOrder();
    }

    private void lifts() {
        liftNumbersLess();
        liftTheLastOne();
        liftMakesRoom();
        liftUnknown();
    }

    private void arcs() {
        arcStepsStraight();
        arcStepsSlanting();
        arcOfRadiusOne();
        arcBeyondTheSheet();
        arcAcrossTheEdges();
        arcInOrder();
        arcOfNoOctants();
        arcWhereOneLies();
        arcWithoutRoom();
        arcOutside();
        arcNoSheet();
    }

    private void strewn() {
        strewDraws();
        strewWraps();
        strewNoTurn();
        strewWhereOneLies();
        strewWithoutRoom();
        strewOutside();
        strewNoSheet();
    }

    private void toldAndAbout() {
        toldLimits();
        toldNoTurn();
        toldNoRing();
        toldUnknown();
        aboutLimits();
        aboutNoSheet();
    }

    private void bounds() {
        boundLimits();
        boundLowToHigh();
        boundNoSuch();
        boundNoSheet();
        boundTellsWhichItWas();
        boundAndWhatIsHunted();
    }

    // ---- 7

    private void dotOffTheSheet() {
        checks.sentence("7: OUTSIDE: x, y (not on the SHEET)");
        int[][] sides = {{4, 4}, {4, 31}, {31, 4}, {9, 17}, {31, 31}};
        for (int[] side : sides) {
            for (int at = -3; at <= 34; at++) {
                boolean across = at >= 0 && at < side[0];
                boolean down = at >= 0 && at < side[1];
                String sheet = side[0] + "x" + side[1] + ":";
                checks.due(sheet + " dot(" + at + ", 3, 0)", across ? 0 : OUTSIDE, Sheets.of(sheet).dot(at, 3, 0));
                checks.due(sheet + " dot(3, " + at + ", 0)", down ? 0 : OUTSIDE, Sheets.of(sheet).dot(3, at, 0));
            }
            for (int far : FAR_OFF) {
                ArcRings x = Sheets.of(side[0] + "x" + side[1] + ":");
                checks.due("dot(" + far + ", 0, 0)", OUTSIDE, x.dot(far, 0, 0));
                checks.due("dot(0, " + far + ", 0)", OUTSIDE, x.dot(0, far, 0));
                checks.due("DOTS after that", 0, x.count(0));
            }
        }
    }

    private void dotTurns() {
        checks.sentence("7: OUTSIDE: turn (NONE to 7)");
        for (int turn = -40; turn <= 40; turn++) {
            ArcRings x = Sheets.of("9x9:");
            boolean sound = turn >= -1 && turn <= 7;
            checks.due("dot(4, 5, " + turn + ")", sound ? 0 : OUTSIDE, x.dot(4, 5, turn));
            checks.due("its TURN", sound ? turn : UNKNOWN, x.told(0, 2));
        }
        for (int turn : FAR_OFF) {
            ArcRings x = Sheets.of("9x9:");
            checks.due("dot(4, 5, " + turn + ")", OUTSIDE, x.dot(4, 5, turn));
            checks.due("DOTS after that", 0, x.count(0));
        }
    }

    private void dotWhereOneLies() {
        checks.sentence("7: STATE: one lies there");
        ArcRings x = Sheets.of("9x9:12-345567");
        int[][] taken = {{1, 2}, {3, 4}, {5, 6}};
        for (int[] at : taken) {
            for (int turn = NONE; turn <= 7; turn++) {
                checks.due("dot(" + at[0] + ", " + at[1] + ", " + turn + ")", STATE, x.dot(at[0], at[1], turn));
            }
        }
        checks.same("the text", "9x9:12-345567", Sheets.textOf(x));
        checks.due("beside it, the same x", 3, x.dot(1, 4, 0));
        checks.due("beside it, the same y", 4, x.dot(5, 2, 0));
        x.lift(0);
        checks.due("where one lay", 4, x.dot(1, 2, 0));
    }

    private void dotFull() {
        checks.sentence("7: FULL: there are 14");
        ArcRings x = Sheets.of("31x31:");
        for (int number = 0; number < 14; number++) {
            checks.due("DOT " + number, number, x.dot(2 * number, 30 - number, number % 9 - 1));
        }
        checks.due("one more", FULL, x.dot(1, 1, 0));
        checks.due("one more at the corner", FULL, x.dot(30, 30, NONE));
        checks.due("DOTS", 14, x.count(0));
        checks.due("about(2)", 14, x.about(2));
    }

    private void dotOrder() {
        checks.sentence("7: of several the first as told: STATE (no SHEET), OUTSIDE, STATE (one lies there), FULL");
        ArcRings none = new ArcRings();
        checks.due("no SHEET", STATE, none.dot(0, 0, 0));
        checks.due("no SHEET, x beyond", STATE, none.dot(-1, 0, 0));
        checks.due("no SHEET, TURN beyond", STATE, none.dot(0, 0, 8));
        ArcRings x = Sheets.of(Sheets.CROWDED);
        checks.due("x beyond on a full one", OUTSIDE, x.dot(31, 0, 0));
        checks.due("y beyond on a full one", OUTSIDE, x.dot(0, 31, 0));
        checks.due("TURN beyond where one lies", OUTSIDE, x.dot(0, 0, 8));
        checks.due("TURN below where one lies", OUTSIDE, x.dot(0, 0, -2));
        checks.due("where one lies on a full one", STATE, x.dot(0, 13, 0));
        checks.due("on a full one", FULL, x.dot(0, 14, 0));
    }

    // ---- 8

    private void liftNumbersLess() {
        checks.sentence("8: those behind it have a number less by 1 each: how many are left");
        String[] all = {"00-", "111", "222", "333", "444"};
        for (int gone = 0; gone < 5; gone++) {
            ArcRings x = Sheets.of("9x9:" + String.join("", all));
            checks.due("lift(" + gone + ")", 4, x.lift(gone));
            StringBuilder left = new StringBuilder("9x9:");
            for (int i = 0; i < 5; i++) {
                left.append(i == gone ? "" : all[i]);
            }
            checks.same("without " + gone, left.toString(), Sheets.textOf(x));
            checks.due("the number behind the last one", UNKNOWN, x.told(4, 0));
        }
    }

    private void liftTheLastOne() {
        checks.sentence("8: how many are left (none)");
        ArcRings x = Sheets.of("9x9:12-");
        checks.due("lift(0)", 0, x.lift(0));
        checks.same("the text", "9x9:", Sheets.textOf(x));
        checks.due("lift(0) again", UNKNOWN, x.lift(0));
    }

    private void liftMakesRoom() {
        checks.sentence("8: a DOT goes (there are 14)");
        ArcRings x = Sheets.of(Sheets.CROWDED);
        checks.due("lift(13)", 13, x.lift(13));
        checks.due("dot(30, 30, 7)", 13, x.dot(30, 30, 7));
        checks.due("one more", FULL, x.dot(29, 30, 7));
        checks.due("lift(0)", 13, x.lift(0));
        checks.due("x of the one that came last", 30, x.told(12, 0));
        for (int left = 12; left >= 0; left--) {
            checks.due("lift(0) down to " + left, left, x.lift(0));
        }
    }

    private void liftUnknown() {
        checks.sentence("8: UNKNOWN: dot (or no SHEET)");
        ArcRings none = new ArcRings();
        ArcRings empty = Sheets.of("9x9:");
        ArcRings three = Sheets.of("9x9:12-34-56-");
        for (int dot : new int[] {-1, 0, 1, 13, 14}) {
            checks.due("no SHEET: lift(" + dot + ")", UNKNOWN, none.lift(dot));
            checks.due("no DOTS: lift(" + dot + ")", UNKNOWN, empty.lift(dot));
        }
        for (int dot : new int[] {-1, 3, 4, 13, 14, 32, 64}) {
            checks.due("lift(" + dot + ") of three", UNKNOWN, three.lift(dot));
        }
        for (int far : FAR_OFF) {
            checks.due("lift(" + far + ") of three", UNKNOWN, three.lift(far));
        }
        checks.due("DOTS after that", 3, three.count(0));
        checks.due("lift(2)", 2, three.lift(2));
        ArcRings full = Sheets.of(Sheets.CROWDED);
        checks.due("lift(14) of fourteen", UNKNOWN, full.lift(14));
    }

    // ---- 9

    /** One DOT at 15, 15, so many steps of its TURN off the place named. */
    private void stepsDue(int r, int turn, int steps) {
        ArcRings x = Sheets.of("31x31:");
        int[] way = POINTS[turn];
        String call = "arc, r " + r + ", K " + turn;
        checks.due(call, 1, x.arc(15 + steps * way[0], 15 + steps * way[1], r, 1 << turn));
        checks.same(call, "31x31:ff" + turn, Sheets.textOf(x));
    }

    private void arcStepsStraight() {
        checks.sentence("9: points to x, y by so many steps: r (1 to 31)");
        for (int r = 1; r <= 31; r++) {
            for (int turn = 0; turn < 8; turn += 2) {
                stepsDue(r, turn, r);
            }
        }
    }

    private void arcStepsSlanting() {
        checks.sentence("9: by an odd K, the greatest number whose square, doubled, is r times r at most");
        for (int r = 1; r <= 31; r++) {
            for (int turn = 1; turn < 8; turn += 2) {
                stepsDue(r, turn, SLANTING[r]);
            }
        }
    }

    private void arcOfRadiusOne() {
        checks.sentence("9: the greatest number whose square, doubled, is 1 at most, is 0");
        ArcRings x = Sheets.of("9x9:");
        checks.due("arc(4, 4, 1, 2 + 8 + 32 + 128): all at the place itself", 1, x.arc(4, 4, 1, 170));
        checks.same("the first of them came", "9x9:441", Sheets.textOf(x));
        checks.due("arc(4, 4, 1, 255)", 4, x.arc(4, 4, 1, 255));
        checks.same("and the straight ones", "9x9:441340432544456", Sheets.textOf(x));
    }

    private void arcDue(String sheet, int came, int[] arc, String text) {
        ArcRings x = Sheets.of(sheet);
        String call = sheet + " arc(" + arc[0] + ", " + arc[1] + ", " + arc[2] + ", " + arc[3] + ")";
        checks.due(call, came, x.arc(arc[0], arc[1], arc[2], arc[3]));
        checks.same(call, text, Sheets.textOf(x));
    }

    private void arcBeyondTheSheet() {
        checks.sentence("9: a place x, y (it may lie beyond the SHEET)");
        arcDue("31x31:", 1, new int[] {-31, 15, 31, 255}, "31x31:0f4");
        arcDue("31x31:", 1, new int[] {15, -31, 31, 255}, "31x31:f06");
        arcDue("31x31:", 1, new int[] {61, 15, 31, 255}, "31x31:uf0");
        arcDue("31x31:", 1, new int[] {15, 61, 31, 255}, "31x31:fu2");
        arcDue("31x31:", 0, new int[] {62, 15, 31, 255}, "31x31:");
        arcDue("31x31:", 0, new int[] {15, 62, 31, 255}, "31x31:");
        arcDue("31x31:", 0, new int[] {-31, 15, 30, 255}, "31x31:");
        arcDue("31x31:", 0, new int[] {-31, -31, 31, 255}, "31x31:");
        arcDue("31x31:", 1, new int[] {-21, -21, 31, 255}, "31x31:005");
        arcDue("31x31:", 0, new int[] {62, 62, 31, 255}, "31x31:");
        arcDue("31x31:", 1, new int[] {51, 51, 31, 255}, "31x31:uu1");
        arcDue("31x31:", 1, new int[] {51, -21, 31, 255}, "31x31:u07");
        arcDue("31x31:", 1, new int[] {-21, 51, 31, 255}, "31x31:0u3");
        arcDue("4x4:", 1, new int[] {34, 2, 31, 255}, "4x4:320");
    }

    private void arcAcrossTheEdges() {
        checks.sentence("9: those that would not lie on the SHEET do not come");
        arcDue("9x9:", 8, new int[] {4, 4, 4, 255}, "9x9:040221402623844665486267");
        arcDue("9x9:", 4, new int[] {4, 4, 5, 255}, "9x9:111713775177");
        arcDue("9x9:", 7, new int[] {3, 4, 4, 255}, "9x9:121302523744565386167");
        arcDue("9x9:", 7, new int[] {5, 4, 4, 255}, "9x9:140321502723765586367");
        arcDue("9x9:", 7, new int[] {4, 3, 4, 255}, "9x9:030211613834655476257");
        arcDue("9x9:", 7, new int[] {4, 5, 4, 255}, "9x9:050231412633854675277");
        arcDue("9x9:", 0, new int[] {4, 4, 7, 85}, "9x9:");
        arcDue("4x31:", 2, new int[] {3, 15, 9, 85}, "4x31:3623o6");
        arcDue("31x4:", 2, new int[] {15, 3, 9, 85}, "31x4:630o34");
    }

    private void arcInOrder() {
        checks.sentence("9: for each K 0 to 7 that is in octants (as bits), in order");
        String[] each = {"4a0", "661", "a42", "e63", "ga4", "ee5", "ag6", "6e7"};
        for (int octants = 0; octants < 256; octants++) {
            StringBuilder text = new StringBuilder("21x21:");
            for (int turn = 0; turn < 8; turn++) {
                text.append((octants >> turn & 1) == 1 ? each[turn] : "");
            }
            arcDue("21x21:", Integer.bitCount(octants), new int[] {10, 10, 6, octants}, text.toString());
        }
    }

    private void arcOfNoOctants() {
        checks.sentence("9: octants (0 to 255): none are in 0");
        ArcRings x = Sheets.of(Sheets.WHOLE);
        x.hunt();
        checks.due("arc(15, 15, 5, 0)", 0, x.arc(15, 15, 5, 0));
        checks.same("the text", Sheets.WHOLE, Sheets.textOf(x));
        checks.due("no DOT came, so what is HUNTED is there", 1, x.split());
    }

    private void arcWhereOneLies() {
        checks.sentence("9: those where one lies do not come");
        ArcRings x = Sheets.of("21x21:4a766-");
        checks.due("arc(10, 10, 6, 255)", 6, x.arc(10, 10, 6, 255));
        checks.same("the text", "21x21:4a766-a42e63ga4ee5ag66e7", Sheets.textOf(x));
        checks.due("the same again", 0, x.arc(10, 10, 6, 255));
        x.lift(0);
        checks.due("one of them", 1, x.arc(10, 10, 6, 255));
        checks.same("behind the others", "21x21:66-a42e63ga4ee5ag66e74a0", Sheets.textOf(x));
    }

    private void arcWithoutRoom() {
        checks.sentence("9: those for which there is no room do not come");
        for (int room = 0; room <= 8; room++) {
            ArcRings x = Sheets.of(Sheets.CROWDED);
            for (int i = 0; i < room; i++) {
                x.lift(0);
            }
            checks.due("arc with room for " + room, room, x.arc(20, 20, 5, 255));
            checks.due("DOTS then", 14, x.count(0));
            checks.due("TURN of the last one", room == 0 ? NONE : room - 1, x.told(13, 2));
            checks.due("arc without room", 0, x.arc(20, 20, 6, 255));
        }
    }

    private void arcOutside() {
        checks.sentence("9: OUTSIDE: x, y (-31 to 62), r (1 to 31), octants (0 to 255)");
        for (int at = -70; at <= 100; at++) {
            boolean sound = at >= -31 && at <= 62;
            ArcRings x = Sheets.of("31x31:");
            checks.due("arc(" + at + ", 0, 1, 0)", sound ? 0 : OUTSIDE, x.arc(at, 0, 1, 0));
            checks.due("arc(0, " + at + ", 1, 0)", sound ? 0 : OUTSIDE, x.arc(0, at, 1, 0));
            sound = at >= 1 && at <= 31;
            checks.due("arc(0, 0, " + at + ", 0)", sound ? 0 : OUTSIDE, x.arc(0, 0, at, 0));
        }
        ArcRings x = Sheets.of("4x4:");
        int[][] wrong = {{-32, 0, 31, 255}, {63, 0, 31, 255}, {0, -32, 31, 255}, {0, 63, 31, 255}, {0, 0, 0, 255},
            {0, 0, -1, 255}, {0, 0, 32, 255}, {0, 0, 1, -1}, {0, 0, 1, 256}, {0, 0, 1, 257}, {0, 0, 1, 511}};
        for (int[] w : wrong) {
            checks.due("arc(" + w[0] + ", " + w[1] + ", " + w[2] + ", " + w[3] + ")", OUTSIDE, x.arc(w[0], w[1], w[2], w[3]));
        }
        for (int far : FAR_OFF) {
            checks.due("x " + far, OUTSIDE, x.arc(far, 0, 1, 255));
            checks.due("y " + far, OUTSIDE, x.arc(0, far, 1, 255));
            checks.due("r " + far, OUTSIDE, x.arc(0, 0, far, 255));
            checks.due("octants " + far, OUTSIDE, x.arc(0, 0, 1, far));
        }
        checks.due("DOTS after that", 0, x.count(0));
    }

    private void arcNoSheet() {
        checks.sentence("9: STATE: no SHEET; then OUTSIDE");
        ArcRings x = new ArcRings();
        checks.due("arc(0, 0, 1, 0)", STATE, x.arc(0, 0, 1, 0));
        checks.due("arc(-32, 0, 1, 0)", STATE, x.arc(-32, 0, 1, 0));
        checks.due("arc(0, 0, 0, 256)", STATE, x.arc(0, 0, 0, 256));
        ArcRings full = Sheets.of(Sheets.CROWDED);
        checks.due("arc(0, 63, 1, 0) on a full one", OUTSIDE, full.arc(0, 63, 1, 0));
        checks.due("arc(0, 0, 1, 255) on a full one", 0, full.arc(0, 0, 1, 255));
    }

    // ---- 10

    /** What should lie there then: the text, by draws of its own. */
    private static String strewn(int w, int h, int n, long seed) {
        StringBuilder text = new StringBuilder(w + "x" + h + ":");
        java.util.Set<String> places = new java.util.HashSet<>();
        long at = seed;
        for (int i = 0; i < n; i++) {
            long[] drawn = new long[3];
            long[] of = {w, h, 9};
            for (int j = 0; j < 3; j++) {
                at = (1103515245L * at + 12345L) % 2147483648L;
                drawn[j] = at / 65536 % of[j];
            }
            if (places.add(drawn[0] + "," + drawn[1])) {
                text.append(Sheets.dot((int) drawn[0], (int) drawn[1], drawn[2] == 8 ? NONE : (int) drawn[2]));
            }
        }
        return text.toString();
    }

    private void strewDue(int w, int h, int n, int seed) {
        ArcRings x = Sheets.of(w + "x" + h + ":");
        String text = strewn(w, h, n, seed);
        String call = w + "x" + h + ": strew(" + n + ", " + seed + ")";
        checks.due(call, (text.length() - text.indexOf(':') - 1) / 3, x.strew(n, seed));
        checks.same(call, text, Sheets.textOf(x));
    }

    private void strewDraws() {
        checks.sentence("10: so many times x by a DRAW of W, y by a DRAW of H, its TURN by a DRAW of 9");
        for (int side = 4; side <= 31; side++) {
            for (int n = 1; n <= 14; n++) {
                strewDue(side, 35 - side, n, 1000 * side + n);
            }
        }
        ArcRings x = Sheets.of("31x9:");
        checks.due("strew(4, 77)", 4, x.strew(4, 77));
        checks.same("strew(4, 77)", "31x9:s5484-156836", Sheets.textOf(x));
    }

    private void strewWraps() {
        checks.sentence("10: its rest by 2 to the 31; then that by 65536 (rounded down), its rest");
        int[] seeds = {0, 1, 2, 65535, 65536, 1 << 30, Integer.MAX_VALUE - 1, Integer.MAX_VALUE};
        for (int seed : seeds) {
            strewDue(31, 31, 14, seed);
            strewDue(7, 4, 5, seed);
        }
        ArcRings least = Sheets.of("4x4:");
        least.strew(1, 0);
        checks.same("by SEED 0: 0, 21468, 9998 by 65536", "4x4:007", Sheets.textOf(least));
        ArcRings most = Sheets.of("31x9:");
        most.strew(1, Integer.MAX_VALUE);
        checks.same("by SEED 2147483647", "31x9:q87", Sheets.textOf(most));
    }

    private void strewNoTurn() {
        checks.sentence("10: its TURN by a DRAW of 9 (8: none)");
        boolean[] seen = new boolean[9];
        for (int seed = 0; seed < 60; seed++) {
            ArcRings x = Sheets.of("31x31:");
            x.strew(1, seed);
            int turn = x.told(0, 2);
            checks.holds("TURN by SEED " + seed, turn >= NONE && turn <= 7);
            seen[turn + 1] = true;
            strewDue(31, 31, 1, seed);
        }
        for (int turn = NONE; turn <= 7; turn++) {
            checks.holds("some SEED has TURN " + turn, seen[turn + 1]);
        }
    }

    private void strewWhereOneLies() {
        checks.sentence("10: one where one lies does not come: how many came");
        ArcRings x = Sheets.of("4x4:");
        checks.due("strew(3, 14): the second lies where the first does", 2, x.strew(3, 14));
        checks.same("its draws are used up all the same", "4x4:003304", Sheets.textOf(x));
        checks.due("strew(3, 14) again: the SEED is not kept", 0, x.strew(3, 14));
        ArcRings laid = Sheets.of("4x4:307");
        checks.due("strew(3, 14) where 3, 0 has one", 1, laid.strew(3, 14));
        checks.same("that one stays", "4x4:307003", Sheets.textOf(laid));
    }

    private void strewWithoutRoom() {
        checks.sentence("10: one for which there is no room does not come: how many came");
        for (int room = 0; room <= 3; room++) {
            ArcRings x = Sheets.of(Sheets.CROWDED);
            for (int i = 0; i < room; i++) {
                x.lift(0);
            }
            String text = strewn(31, 31, room, 4322);
            checks.due("strew(14, 4322) with room for " + room, room, x.strew(14, 4322));
            checks.due("DOTS then", 14, x.count(0));
            String whole = Sheets.CROWDED.substring(0, 6) + Sheets.CROWDED.substring(6 + 3 * room) + text.substring(6);
            checks.same("the first of them came", whole, Sheets.textOf(x));
            checks.due("strew(14, 5) without room", 0, x.strew(14, 5));
        }
    }

    private void strewOutside() {
        checks.sentence("10: OUTSIDE: n (1 to 14), seed (0 at least)");
        ArcRings x = Sheets.of("4x4:");
        for (int n : new int[] {0, -1, -14, 15, 16, 28}) {
            checks.due("strew(" + n + ", 5)", OUTSIDE, x.strew(n, 5));
        }
        for (int far : FAR_OFF) {
            checks.due("strew(" + far + ", 5)", OUTSIDE, x.strew(far, 5));
        }
        for (int seed : new int[] {-1, -2, -65536, Integer.MIN_VALUE + 1, Integer.MIN_VALUE}) {
            checks.due("strew(1, " + seed + ")", OUTSIDE, x.strew(1, seed));
            checks.due("strew(14, " + seed + ")", OUTSIDE, x.strew(14, seed));
        }
        checks.due("strew(0, -1)", OUTSIDE, x.strew(0, -1));
        checks.due("DOTS after that", 0, x.count(0));
        checks.due("strew(1, 0)", 1, x.strew(1, 0));
        checks.due("strew(14, 2147483647)", 8, Sheets.of("4x4:").strew(14, Integer.MAX_VALUE));
    }

    private void strewNoSheet() {
        checks.sentence("10: STATE: no SHEET; then OUTSIDE");
        ArcRings x = new ArcRings();
        checks.due("strew(1, 0)", STATE, x.strew(1, 0));
        checks.due("strew(0, 0)", STATE, x.strew(0, 0));
        checks.due("strew(1, -1)", STATE, x.strew(1, -1));
        ArcRings full = Sheets.of(Sheets.CROWDED);
        checks.due("strew(15, 0) on a full one", OUTSIDE, full.strew(15, 0));
        checks.due("strew(14, 0) on a full one", 0, full.strew(14, 0));
    }

    // ---- 11 and 12

    private void toldLimits() {
        checks.sentence("11: what = 0 x, 1 y, 2 TURN, 3 the RING whose it is; OUTSIDE: what");
        ArcRings x = Sheets.of("9x9:127");
        int[] want = {1, 2, 7, NONE};
        for (int what = -3; what <= 8; what++) {
            checks.due("told(0, " + what + ")", what < 0 || what > 3 ? OUTSIDE : want[what], x.told(0, what));
        }
        for (int far : FAR_OFF) {
            checks.due("told(0, " + far + ")", OUTSIDE, x.told(0, far));
        }
    }

    private void toldNoTurn() {
        checks.sentence("11: TURN (NONE)");
        ArcRings x = Sheets.of("9x9:12-340567");
        checks.due("told(0, 2)", NONE, x.told(0, 2));
        checks.due("told(1, 2)", 0, x.told(1, 2));
        checks.due("told(2, 2)", 7, x.told(2, 2));
    }

    private void toldNoRing() {
        checks.sentence("11: the RING whose it is (NONE; also if nothing is HUNTED)");
        ArcRings x = Sheets.of(Sheets.WHOLE + "uu-");
        checks.due("told(0, 3) unhunted", NONE, x.told(0, 3));
        x.hunt();
        for (int dot = 0; dot < 8; dot++) {
            checks.due("told(" + dot + ", 3)", 0, x.told(dot, 3));
        }
        checks.due("told(8, 3) of none", NONE, x.told(8, 3));
        x.lift(8);
        checks.due("told(0, 3) when what was HUNTED is gone", NONE, x.told(0, 3));
        x.bound(3, 9);
        x.hunt();
        checks.due("told(0, 3) without RINGS", NONE, x.told(0, 3));
    }

    private void toldUnknown() {
        checks.sentence("11: UNKNOWN: dot (or no SHEET); then OUTSIDE");
        ArcRings none = new ArcRings();
        ArcRings empty = Sheets.of("9x9:");
        ArcRings full = Sheets.of(Sheets.CROWDED);
        for (int what : new int[] {0, 3, 4, -1}) {
            checks.due("no SHEET: told(0, " + what + ")", UNKNOWN, none.told(0, what));
            checks.due("no DOTS: told(0, " + what + ")", UNKNOWN, empty.told(0, what));
            checks.due("told(-1, " + what + ")", UNKNOWN, full.told(-1, what));
            checks.due("told(14, " + what + ")", UNKNOWN, full.told(14, what));
            for (int far : FAR_OFF) {
                checks.due("told(" + far + ", " + what + ")", UNKNOWN, full.told(far, what));
            }
        }
        checks.due("told(13, 1)", 13, full.told(13, 1));
    }

    private void aboutLimits() {
        checks.sentence("12: what = 0 W .. 7 ROUND; OUTSIDE");
        ArcRings x = Sheets.of("5x30:00-");
        checks.same("about()", "5 30 1 2 12 1 4 3", Sheets.abouts(x));
        for (int what : new int[] {-1, -2, 8, 9, 16}) {
            checks.due("about(" + what + ")", OUTSIDE, x.about(what));
        }
        for (int far : FAR_OFF) {
            checks.due("about(" + far + ")", OUTSIDE, x.about(far));
        }
    }

    private void aboutNoSheet() {
        checks.sentence("12: OUTSIDE, then STATE: no SHEET");
        ArcRings x = new ArcRings();
        for (int what = -3; what <= 10; what++) {
            checks.due("about(" + what + ")", what < 0 || what > 7 ? OUTSIDE : STATE, x.about(what));
        }
    }

    // ---- 13

    private void boundLimits() {
        checks.sentence("13: 0 LOW (1 to HIGH), 1 HIGH (LOW to 22), 2 SLACK (0 to 4), 3 NEED (2 to 14), 4 ROUND (1 to 8)");
        int[][] limits = {{1, 12}, {2, 22}, {0, 4}, {2, 14}, {1, 8}};
        int[] first = {2, 12, 1, 4, 3};
        for (int what = 0; what < 5; what++) {
            for (int v = -5; v <= 40; v++) {
                ArcRings x = Sheets.of("9x9:");
                boolean sound = v >= limits[what][0] && v <= limits[what][1];
                int[] then = first.clone();
                then[what] = sound ? v : first[what];
                checks.due("bound(" + what + ", " + v + ")", sound ? first[what] : OUTSIDE, x.bound(what, v));
                checks.same("about() then", "9 9 0 " + Sheets.words(then), Sheets.abouts(x));
            }
            for (int far : FAR_OFF) {
                checks.due("bound(" + what + ", " + far + ")", OUTSIDE, Sheets.of("9x9:").bound(what, far));
            }
        }
    }

    private void boundLowToHigh() {
        checks.sentence("13: LOW (1 to HIGH), HIGH (LOW to 22)");
        for (int both = 1; both <= 22; both++) {
            ArcRings x = Sheets.of("9x9:", both, both);
            checks.due("LOW above HIGH " + both, OUTSIDE, x.bound(0, both + 1));
            checks.due("HIGH below LOW " + both, OUTSIDE, x.bound(1, both - 1));
            checks.due("LOW as HIGH " + both, both, x.bound(0, both));
            checks.due("HIGH as LOW " + both, both, x.bound(1, both));
            checks.due("HIGH 22", both, x.bound(1, 22));
            checks.due("LOW 1", both, x.bound(0, 1));
            checks.due("HIGH 1", 22, x.bound(1, 1));
        }
    }

    private void boundNoSuch() {
        checks.sentence("13: OUTSIDE: what");
        ArcRings x = Sheets.of("9x9:");
        for (int what : new int[] {-1, -2, -3, 5, 6, 7, 8}) {
            for (int v = 0; v <= 12; v++) {
                checks.due("bound(" + what + ", " + v + ")", OUTSIDE, x.bound(what, v));
            }
        }
        for (int far : FAR_OFF) {
            checks.due("bound(" + far + ", 3)", OUTSIDE, x.bound(far, 3));
        }
        checks.same("about() then", "9 9 0 2 12 1 4 3", Sheets.abouts(x));
    }

    private void boundNoSheet() {
        checks.sentence("13: STATE: no SHEET; then OUTSIDE");
        ArcRings x = new ArcRings();
        checks.due("bound(0, 3)", STATE, x.bound(0, 3));
        checks.due("bound(5, 3)", STATE, x.bound(5, 3));
        checks.due("bound(-1, -1)", STATE, x.bound(-1, -1));
        checks.due("bound(0, 0)", STATE, x.bound(0, 0));
        Sheets.type(x, "9x9:");
        x.sheet();
        checks.same("about() of the first SHEET", "9 9 0 2 12 1 4 3", Sheets.abouts(x));
    }

    private void boundTellsWhichItWas() {
        checks.sentence("13: which it was");
        ArcRings x = Sheets.of("9x9:");
        int[][] rows = {{1, 22, 12}, {1, 21, 22}, {0, 21, 2}, {0, 1, 21}, {2, 4, 1}, {2, 0, 4}, {2, 2, 0}, {3, 14, 4},
            {3, 2, 14}, {3, 7, 2}, {4, 8, 3}, {4, 1, 8}, {4, 5, 1}};
        for (int[] row : rows) {
            checks.due("bound(" + row[0] + ", " + row[1] + ")", row[2], x.bound(row[0], row[1]));
        }
        checks.same("about() then", "9 9 0 1 21 2 7 5", Sheets.abouts(x));
    }

    private void boundAndWhatIsHunted() {
        checks.sentence("terms 3: What is HUNTED is gone by bound() (if it is not refused)");
        int[] same = {2, 12, 1, 4, 3};
        int[] wrong = {0, 23, 5, 1, 9};
        for (int what = 0; what < 5; what++) {
            ArcRings x = Sheets.of(Sheets.WHOLE);
            x.hunt();
            checks.due("bound refused, " + what, OUTSIDE, x.bound(what, wrong[what]));
            checks.due("RINGS stay, " + what, 1, x.split());
            checks.due("the same number, " + what, same[what], x.bound(what, same[what]));
            checks.due("RINGS are gone, " + what, STATE, x.split());
            checks.due("count(1), " + what, 0, x.count(1));
        }
        ArcRings x = Sheets.of(Sheets.WHOLE);
        x.hunt();
        checks.due("bound(5, 1)", OUTSIDE, x.bound(5, 1));
        checks.due("bound(-1, 1)", OUTSIDE, x.bound(-1, 1));
        checks.due("RINGS stay", 1, x.split());
    }
}
