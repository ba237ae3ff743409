/** Each promise of the document by itself: ordinary inputs, the edges it names, and wrong inputs. */
public final class PromiseTest {
    private static final int NONE = -1, UNKNOWN = -101, OUTSIDE = -102, STATE = -103, FULL = -104;
    private static final int[] FAR_OFF = {Integer.MIN_VALUE, -1000, 1000, Integer.MAX_VALUE};

    private final Checks checks = new Checks();

    public static void main(String[] args) {
        PromiseTest test = new PromiseTest();
        test.texts();
        test.dots();
        test.circlesAndSpots();
        test.rings();
        test.allTogether();
        test.checks.end();
    }

    private void texts() {
        newObject();
        letters();
        faults();
        sheets();
        inks();
    }

    private void dots() {
        dotComes();
        dotGoes();
        arcs();
        strewn();
        toldOfDots();
        aboutTheSheet();
        bounds();
    }

    private void circlesAndSpots() {
        circles();
        agreeing();
        voting();
        spotsInOrder();
        supporters();
        spotTotals();
    }

    private void rings() {
        hunting();
        huntOrder();
        huntedIsGone();
        splitting();
        toldOfRings();
        crossing();
    }

    private void allTogether() {
        counts();
        digests();
    }

    private void due(String call, long want, long got) {
        checks.due(call, want, got);
    }

    private void textDue(String want, ArcRings x) {
        String got = Sheets.textOf(x);
        checks.holds("the text is " + got + ", due is " + want, got.equals(want));
    }

    // 1
    private void newObject() {
        ArcRings x = new ArcRings();
        for (int what = 0; what <= 6; what++) {
            due("new: count(" + what + ")", 0, x.count(what));
        }
        due("new: fault()", 0, x.fault());
        due("new: sheet()", STATE, x.sheet());
        due("new: blank()", 0, x.blank());
        due("new: ink(0)", STATE, x.ink(0));
        due("new: ink(-1)", STATE, x.ink(-1));
        due("new: dot(-1, 0, 9)", STATE, x.dot(-1, 0, 9));
        due("new: lift(0)", UNKNOWN, x.lift(0));
        due("new: arc(99, 0, 0, 0)", STATE, x.arc(99, 0, 0, 0));
        due("new: strew(0, -1)", STATE, x.strew(0, -1));
        due("new: told(0, 9)", UNKNOWN, x.told(0, 9));
        due("new: about(0)", STATE, x.about(0));
        due("new: about(8)", OUTSIDE, x.about(8));
        due("new: bound(9, 9)", STATE, x.bound(9, 9));
        due("new: circle(0, 1, 2, 9)", UNKNOWN, x.circle(0, 1, 2, 9));
        due("new: votes(0, 0, 2)", STATE, x.votes(0, 0, 2));
        due("new: spot(0, 9)", UNKNOWN, x.spot(0, 9));
        due("new: spots(0)", STATE, x.spots(0));
        due("new: spots(4)", OUTSIDE, x.spots(4));
        due("new: hunt()", STATE, x.hunt());
        due("new: split()", STATE, x.split());
        due("new: ring(0, 9)", UNKNOWN, x.ring(0, 9));
        due("new: as(0, 9)", UNKNOWN, x.as(0, 9));
        due("new: cross(0, 1)", UNKNOWN, x.cross(0, 1));
        due("new: count(5)", 0, x.count(5));
    }

    // 2 and 3
    private void letters() {
        ArcRings x = new ArcRings();
        due("letter(31)", OUTSIDE, x.letter(31));
        due("letter(127)", OUTSIDE, x.letter(127));
        for (int code : FAR_OFF) {
            due("letter far off", OUTSIDE, x.letter(code));
        }
        due("letter(32)", 1, x.letter(32));
        due("letter(126)", 2, x.letter(126));
        for (int many = 3; many <= 50; many++) {
            due("letter " + many, many, x.letter(65));
        }
        due("letter 51", FULL, x.letter(65));
        due("letter 51, no letter", OUTSIDE, x.letter(31));
        due("count(3) when full", 50, x.count(3));
        due("fault() when full", 0, x.fault());
        due("blank() when full", 50, x.blank());
        due("blank() when empty", 0, x.blank());
        due("count(3) when empty", 0, x.count(3));
        due("letter after blank", 1, x.letter(52));
        due("fault() after blank", 1, x.fault());
    }

    // 4
    private void faults() {
        String[] sound = {"", "1", "2", "3", "4", "9", "10", "29", "30", "31", "4x", "31x", "4x1", "4x31", "31x4",
            "4x4:", "31x31:", "4x4:3", "4x4:33", "4x4:33-", "4x4:330", "4x4:337", "31x31:uu-", "11x11:aa0",
            "4x4:00-01-02-1", "5x5:00-01-02-03-0", "4x4:00-10-20-30-01-"};
        for (String each : sound) {
            faultDue(each, each.length());
        }
        faultDue("0", 0);
        faultDue("04x4", 0);
        faultDue(" 4", 0);
        faultDue("x", 0);
        faultDue("/", 0);
        faultDue(":", 0);
        faultDue("1x", 1);
        faultDue("3x", 1);
        faultDue("1:", 1);
        faultDue("32", 1);
        faultDue("39", 1);
        faultDue("2/", 1);
        faultDue("40", 1);
        faultDue("100", 2);
        faultDue("4X", 1);
        faultDue("4:", 1);
        faultDue("4x0", 2);
        faultDue("4x3:", 3);
        faultDue("4x32", 3);
        faultDue("4x4x", 3);
        faultDue("4x44", 3);
        faultDue("4x4: ", 4);
        faultDue("4x9:4", 4);
        faultDue("9x4:83-84-", 8);
        faultDue("9x4:9", 4);
        faultDue("4x4:34", 5);
        faultDue("4x4:3-", 5);
        faultDue("4x4:33/", 6);
        faultDue("4x4:338", 6);
        faultDue("4x4:33a", 6);
        faultDue("4x4:33-33", 8);
        faultDue("4x4:330334", 8);
        faultDue("10x10:a", 6);
        faultDue("30x31:u", 6);
        faultDue("31x31:v", 6);
        faultDue("31x31:U", 6);
        faultDue("31x31:uv", 7);
        faultDue("31x30:uu", 7);
        faultDue("4x4:00-01-02-03-0", 16);
        faultDue("9x4:80-81-33-82-83-8", 19);
        faultDue("4x4:q4-zz", 4);
        String full = "31x31:00-01-02-03-04-05-06-07-08-09-0a-0b-0c-0d-";
        faultDue(full, 48);
        faultDue(full + "0", 48);
        faultDue(full + "1e", 48);
    }

    private void faultDue(String text, int want) {
        ArcRings x = new ArcRings();
        Sheets.type(x, text);
        due("fault() of " + text, want, x.fault());
        due("letters of " + text + " after fault()", text.length(), x.count(3));
    }

    // 5
    private void sheets() {
        String[] none = {"", "4", "31", "4x", "4x4", "31x31", "4x4:0", "4x4:00", "4x4:00-0", "4x4:00-00-", "4x3:", "32x4:",
            "4x4:008", "4x4:40-", "4x4:04-", "4x4: "};
        for (String each : none) {
            ArcRings x = Sheets.of(Sheets.WHOLE);
            x.bound(3, 5);
            x.hunt();
            Sheets.type(x, each);
            due("sheet() of " + each, STATE, x.sheet());
            due("letters left of " + each, each.length(), x.count(3));
            due("the old SHEET after " + each, 31, x.about(0));
            due("the old NEED after " + each, 5, x.about(6));
            due("the old RINGS after " + each, 1, x.count(1));
            due("SHEETS read after " + each, 1, x.count(4));
        }
        ArcRings x = Sheets.of(Sheets.WHOLE);
        int[] other = {3, 7, 0, 2, 1};
        for (int what = 0; what < 5; what++) {
            x.bound(what, other[what]);
        }
        x.hunt();
        Sheets.type(x, "4x31:00-3u7");
        due("sheet() of another", 2, x.sheet());
        int[] first = {4, 31, 2, 2, 12, 1, 4, 3};
        for (int what = 0; what < 8; what++) {
            due("about(" + what + ") of another", first[what], x.about(what));
        }
        due("letters after sheet()", 0, x.count(3));
        due("SHEETS read", 2, x.count(4));
        due("hunts stay counted", 1, x.count(5));
        due("split() of another", STATE, x.split());
        due("RINGS of another", 0, x.count(1));
        due("SPOTS of another", 0, x.spots(0));
        due("x of the last", 3, x.told(1, 0));
        due("y of the last", 30, x.told(1, 1));
        due("TURN of the last", 7, x.told(1, 2));
        due("TURN of the first", NONE, x.told(0, 2));
        due("sheet() of an empty page", STATE, x.sheet());
        due("fourteen DOTS", 14, Sheets.of("31x31:00-01-02-03-04-05-06-07-08-09-0a-0b-0c-0d-").count(0));
    }

    // 6
    private void inks() {
        String[] texts = {"4x4:", "9x10:", "10x9:", "31x31:uu7", "4x30:00-3t01n5", Sheets.WHOLE};
        for (String each : texts) {
            ArcRings x = Sheets.of(each);
            for (int place = 0; place < each.length(); place++) {
                due("ink(" + place + ") of " + each, each.charAt(place), x.ink(place));
            }
            due("ink behind " + each, NONE, x.ink(each.length()));
            due("ink far behind " + each, NONE, x.ink(Integer.MAX_VALUE));
            due("ink(-1) of " + each, UNKNOWN, x.ink(-1));
            due("ink far ahead of " + each, UNKNOWN, x.ink(Integer.MIN_VALUE));
        }
    }

    // 7
    private void dotComes() {
        ArcRings x = Sheets.of("12x11:");
        due("dot(11, 10, -1)", 0, x.dot(11, 10, -1));
        due("dot(0, 0, 7)", 1, x.dot(0, 0, 7));
        due("dot(12, 0, 0)", OUTSIDE, x.dot(12, 0, 0));
        due("dot(0, 11, 0)", OUTSIDE, x.dot(0, 11, 0));
        due("dot(-1, 0, 0)", OUTSIDE, x.dot(-1, 0, 0));
        due("dot(0, -1, 0)", OUTSIDE, x.dot(0, -1, 0));
        due("dot(1, 1, 8)", OUTSIDE, x.dot(1, 1, 8));
        due("dot(1, 1, -2)", OUTSIDE, x.dot(1, 1, -2));
        due("dot(0, 0, 0)", STATE, x.dot(0, 0, 0));
        due("dot(0, 0, 8)", OUTSIDE, x.dot(0, 0, 8));
        for (int number = 2; number < 13; number++) {
            due("dot " + number, number, x.dot(5, number - 2, 3));
        }
        due("dot 13", 13, x.dot(6, 0, 3));
        due("how many", 14, x.count(0));
        due("one more", FULL, x.dot(1, 1, 0));
        due("one more where one lies", STATE, x.dot(0, 0, 0));
        due("one more beyond", OUTSIDE, x.dot(12, 0, 0));
        textDue("12x11:ba-0075035135235335435535635735835935a3603", x);
    }

    // 8
    private void dotGoes() {
        ArcRings x = Sheets.of("9x9:00-115221333");
        due("lift(4)", UNKNOWN, x.lift(4));
        due("lift(-1)", UNKNOWN, x.lift(-1));
        due("lift(1)", 3, x.lift(1));
        textDue("9x9:00-221333", x);
        due("lift(2)", 2, x.lift(2));
        due("lift(2) again", UNKNOWN, x.lift(2));
        due("lift(0)", 1, x.lift(0));
        textDue("9x9:221", x);
        due("lift(0) at last", 0, x.lift(0));
        due("lift(0) of none", UNKNOWN, x.lift(0));
        due("the place is empty", 0, x.dot(2, 2, 0));
    }

    // 9
    private void arcs() {
        ArcRings x = Sheets.of("31x31:");
        due("arc(10, 10, 5, 255)", 8, x.arc(10, 10, 5, 255));
        textDue("31x31:5a0771a52d73fa4dd5af67d7", x);
        due("the same again", 0, x.arc(10, 10, 5, 255));
        due("no octants", 0, x.arc(20, 20, 5, 0));
        due("six more", 6, x.arc(22, 22, 7, 255));
        due("no room", 0, x.arc(4, 4, 1, 255));
        arcDue(1, 4, 4, 1, 2 + 8, "31x31:441");
        arcDue(1, 4, 4, 2, 2, "31x31:331");
        arcDue(1, 9, 9, 7, 2, "31x31:551");
        arcDue(1, 9, 9, 8, 2, "31x31:441");
        arcDue(0, 62, 10, 31, 1, "31x31:");
        arcDue(1, 61, 10, 31, 1, "31x31:ua0");
        arcDue(1, -31, 10, 31, 16, "31x31:0a4");
        arcDue(1, 10, -31, 31, 64, "31x31:a06");
        arcDue(1, 10, 61, 31, 255, "31x31:au2");
        arcDue(0, -31, -31, 31, 255, "31x31:");
        ArcRings y = Sheets.of("4x31:");
        due("arc on a narrow one", 2, y.arc(2, 15, 6, 255));
        textDue("4x31:2922l6", y);
        int[][] wrong = {{-32, 0, 1, 0}, {63, 0, 1, 0}, {0, -32, 1, 0}, {0, 63, 1, 0}, {0, 0, 0, 0}, {0, 0, 32, 0},
            {0, 0, 1, -1}, {0, 0, 1, 256}};
        for (int[] w : wrong) {
            due("arc(" + w[0] + ", " + w[1] + ", " + w[2] + ", " + w[3] + ")", OUTSIDE, y.arc(w[0], w[1], w[2], w[3]));
        }
        due("nothing came", 2, y.count(0));
    }

    private void arcDue(int came, int x, int y, int r, int octants, String text) {
        ArcRings rings = Sheets.of("31x31:");
        String call = "arc(" + x + ", " + y + ", " + r + ", " + octants + ")";
        due(call, came, rings.arc(x, y, r, octants));
        textDue(text, rings);
    }

    // 10
    private void strewn() {
        ArcRings x = Sheets.of("31x9:");
        due("strew(4, 77)", 4, x.strew(4, 77));
        textDue("31x9:s5484-156836", x);
        due("strew(4, 77) again", 0, x.strew(4, 77));
        due("strew(1, 2147483647)", 1, x.strew(1, 2147483647));
        textDue("31x9:s5484-156836q87", x);
        ArcRings y = Sheets.of("4x4:");
        due("strew(14, 4) on 16 places", 11, y.strew(14, 4));
        due("strew(14, 7)", 3, y.strew(14, 7));
        due("how many", 14, y.count(0));
        due("strew(14, 9)", 0, y.strew(14, 9));
        ArcRings z = Sheets.of("4x4:");
        due("strew(3, 14): the second lies where the first does", 2, z.strew(3, 14));
        textDue("4x4:003304", z);
        ArcRings zero = Sheets.of("4x4:");
        due("strew(1, 0)", 1, zero.strew(1, 0));
        textDue("4x4:007", zero);
        due("strew(0, 0)", OUTSIDE, z.strew(0, 0));
        due("strew(15, 0)", OUTSIDE, z.strew(15, 0));
        due("strew(1, -1)", OUTSIDE, z.strew(1, -1));
        due("strew far off", OUTSIDE, z.strew(Integer.MAX_VALUE, Integer.MIN_VALUE));
        due("nothing came", 2, z.count(0));
    }

    // 11
    private void toldOfDots() {
        ArcRings x = Sheets.of(Sheets.WHOLE);
        due("told(0, 0)", 16, x.told(0, 0));
        due("told(0, 1)", 12, x.told(0, 1));
        due("told(0, 2)", NONE, x.told(0, 2));
        due("told(0, 3)", NONE, x.told(0, 3));
        x.dot(0, 0, 6);
        due("told(8, 2)", 6, x.told(8, 2));
        x.hunt();
        due("told(0, 3) hunted", 0, x.told(0, 3));
        due("told(7, 3) hunted", 0, x.told(7, 3));
        due("told(8, 3) of no ring", NONE, x.told(8, 3));
        due("told(0, 4)", OUTSIDE, x.told(0, 4));
        due("told(0, -1)", OUTSIDE, x.told(0, -1));
        due("told(9, 0)", UNKNOWN, x.told(9, 0));
        due("told(-1, 0)", UNKNOWN, x.told(-1, 0));
        due("told(9, 4)", UNKNOWN, x.told(9, 4));
    }

    // 12
    private void aboutTheSheet() {
        ArcRings x = Sheets.of("5x30:00-");
        int[] want = {5, 30, 1, 2, 12, 1, 4, 3};
        for (int what = 0; what < 8; what++) {
            due("about(" + what + ")", want[what], x.about(what));
        }
        due("about(-1)", OUTSIDE, x.about(-1));
        due("about(8)", OUTSIDE, x.about(8));
        x.dot(1, 1, 1);
        due("about(2) after a DOT", 2, x.about(2));
    }

    // 13
    private void bounds() {
        int[][] limits = {{1, 12}, {2, 22}, {0, 4}, {2, 14}, {1, 8}};
        int[] first = {2, 12, 1, 4, 3};
        for (int what = 0; what < 5; what++) {
            ArcRings x = Sheets.of("9x9:");
            due("bound below, " + what, OUTSIDE, x.bound(what, limits[what][0] - 1));
            due("bound above, " + what, OUTSIDE, x.bound(what, limits[what][1] + 1));
            for (int far : FAR_OFF) {
                due("bound far off, " + what, OUTSIDE, x.bound(what, far));
            }
            due("unchanged, " + what, first[what], x.about(3 + what));
            due("bound least, " + what, first[what], x.bound(what, limits[what][0]));
            due("bound most, " + what, limits[what][0], x.bound(what, limits[what][1]));
            due("bound it is, " + what, limits[what][1], x.about(3 + what));
            for (int other = 0; other < 5; other++) {
                due("other bound " + other, other == what ? limits[what][1] : first[other], x.about(3 + other));
            }
        }
        ArcRings x = Sheets.of("9x9:");
        due("bound(-1, 1)", OUTSIDE, x.bound(-1, 1));
        due("bound(5, 1)", OUTSIDE, x.bound(5, 1));
        due("HIGH 22", 12, x.bound(1, 22));
        due("LOW 22", 2, x.bound(0, 22));
        due("HIGH below LOW", OUTSIDE, x.bound(1, 21));
        due("LOW above HIGH", OUTSIDE, x.bound(0, 23));
        due("HIGH as LOW", 22, x.bound(1, 22));
    }

    // 14
    private void circles() {
        ArcRings x = Sheets.of("31x31:00-40-04-06-23-");
        circleDue(x, "a right corner", new int[] {0, 1, 2}, new int[] {1, 2, 2, 2, 3});
        circleDue(x, "a MIDDLE beyond", new int[] {0, 4, 3}, new int[] {0, -2, 3, 3, 3});
        ArcRings y = Sheets.of("31x31:00-13-06-");
        circleDue(y, "a whole number below 0", new int[] {0, 1, 2}, new int[] {0, -4, 3, 5, 3});
        ArcRings flat = Sheets.of("31x31:00-f1-u1-i1-");
        circleDue(flat, "a wide one", new int[] {0, 1, 2}, new int[] {0, 22, -225, 225, 3});
        ArcRings vast = Sheets.of("31x31:00-un-da-");
        circleDue(vast, "a vast one", new int[] {0, 1, 2}, new int[] {0, 4051, -5254, 6634, 3});
        due("on one line", STATE, flat.circle(1, 2, 3, 0));
        due("on one line, no such", OUTSIDE, flat.circle(1, 2, 3, 5));
        due("no such below", OUTSIDE, flat.circle(0, 1, 2, -1));
        int[][] unknown = {{0, 1, 1}, {1, 0, 1}, {1, 1, 0}, {0, 1, 4}, {0, 4, 1}, {4, 0, 1}, {-1, 0, 1}, {0, -1, 1}, {0, 1, -1}};
        for (int[] u : unknown) {
            due("circle of " + u[0] + ", " + u[1] + ", " + u[2], UNKNOWN, flat.circle(u[0], u[1], u[2], 9));
        }
    }

    /** A CIRCLE is the same one in whatever order its DOTS are named. */
    private void circleDue(ArcRings x, String what, int[] d, int[] want) {
        int[][] orders = {{0, 1, 2}, {0, 2, 1}, {1, 0, 2}, {1, 2, 0}, {2, 0, 1}, {2, 1, 0}};
        for (int[] o : orders) {
            for (int i = 0; i < 5; i++) {
                due(what + ", " + i, want[i], x.circle(d[o[0]], d[o[1]], d[o[2]], i));
            }
        }
    }

    /** The MIDDLE lies straight from one DOT, slanting from another: 45 degrees to each side agree. */
    private void agreeing() {
        int[][] ways = {{1, 0}, {1, 1}, {0, 1}, {-1, 1}, {-1, 0}, {-1, -1}, {0, -1}, {1, -1}};
        for (int way = 0; way < 8; way++) {
            for (int turn = -1; turn < 8; turn++) {
                ArcRings x = Sheets.of("31x31:");
                x.dot(15 - 5 * ways[way][0], 15 - 5 * ways[way][1], turn);
                int far = way % 2 == 0 ? 4 : 5;
                // two more at the same distance, off the first one's line
                x.dot(15 + (far == 4 ? 3 : 5) * side(way, 0), 15 + (far == 4 ? 4 : 5) * side(way, 1), -1);
                x.dot(15 + (far == 4 ? 4 : 5) * side(way + 2, 0), 15 + (far == 4 ? 3 : 5) * side(way + 2, 1), -1);
                boolean near = turn == -1 || (turn - way + 8) % 8 <= 1 || (way - turn + 8) % 8 <= 1;
                due("the MIDDLE, way " + way, 15, x.circle(0, 1, 2, 1));
                due("AGREES by way " + way + ", TURN " + turn, near ? 3 : 2, x.circle(0, 1, 2, 4));
                due("VOTES by way " + way + ", TURN " + turn, near ? 1 : 0, x.circle(0, 1, 2, 0));
            }
        }
    }

    /** A slanting corner; those of way and way + 2 are never the one that way comes from. */
    private static int side(int way, int axis) {
        int[][] corners = {{1, 1}, {-1, 1}, {-1, -1}, {1, -1}};
        return corners[way / 2 % 4][axis];
    }

    // 15
    private void voting() {
        ArcRings x = Sheets.of(Sheets.WHOLE);
        due("votes(10, 10, 5)", 56, x.votes(10, 10, 5));
        due("votes(10, 10, 4)", 0, x.votes(10, 10, 4));
        due("votes(10, 11, 5)", 0, x.votes(10, 11, 5));
        due("votes(11, 10, 5)", 0, x.votes(11, 10, 5));
        for (int far : FAR_OFF) {
            due("votes far off", 0, x.votes(far, 10, 5) + x.votes(10, far, 5) + x.votes(10, 10, far));
        }
        due("votes by whole rounds", 0, x.votes(10 + 32, 10 - 1, 5) + x.votes(10, 10 + 32, 4) + x.votes(10, 10, 5 + 32));
        x.bound(0, 5);
        x.bound(1, 5);
        due("votes as LOW and HIGH", 56, x.votes(10, 10, 5));
        x.bound(1, 6);
        x.bound(0, 6);
        due("votes below LOW", 0, x.votes(10, 10, 5));
        x.bound(0, 1);
        x.bound(1, 4);
        due("votes above HIGH", 0, x.votes(10, 10, 5));
        votesDue("4x8:01-07-10-", 4, 4, 0);
        votesDue("5x8:01-07-10-", 4, 4, 1);
        votesDue("8x4:10-70-01-", 4, 4, 0);
        votesDue("8x5:10-70-01-", 4, 4, 1);
        votesDue("9x9:05-34-50-", 0, 0, 1);
        votesDue("9x9:00-13-06-", -4, 3, 0);
        votesDue("9x9:00-31-60-", 3, -4, 0);
    }

    /** By the one CIRCLE of a SHEET, whose MIDDLE lies there. */
    private void votesDue(String text, int cx, int cy, int want) {
        ArcRings x = Sheets.of(text);
        due("cx of " + text, cx, x.circle(0, 1, 2, 1));
        due("cy of " + text, cy, x.circle(0, 1, 2, 2));
        due("whether it VOTES: " + text, want, x.circle(0, 1, 2, 0));
        due("VOTES in " + text, want, x.votes(cx, cy, 5));
    }

    // 16
    private void spotsInOrder() {
        ArcRings x = Sheets.of(Sheets.WHOLE);
        int[] want = {10, 10, 5, 56, 8, 8, 255};
        for (int what = 0; what < 7; what++) {
            due("spot(0, " + what + ")", want[what], x.spot(0, what));
        }
        due("spot(0, 7)", OUTSIDE, x.spot(0, 7));
        due("spot(0, -1)", OUTSIDE, x.spot(0, -1));
        due("spot(1, 0)", UNKNOWN, x.spot(1, 0));
        due("spot(-1, 0)", UNKNOWN, x.spot(-1, 0));
        due("spot(1, 9)", UNKNOWN, x.spot(1, 9));
        inOrder("21x20:73-8a-g3-7d-6e-3a-2g-");
        inOrder("9x9:00-80-08-88-40-44-48-");
        inOrder("12x5:00-02-20-24-42-62-");
    }

    private void inOrder(String text) {
        ArcRings x = Sheets.of(text);
        x.bound(0, 1);
        x.bound(1, 22);
        int many = x.spots(0);
        checks.holds("several SPOTS to order", many > 5);
        int votes = 0;
        long ahead = 0;
        for (int i = 0; i < many; i++) {
            long rank = rank(x, i);
            checks.holds("SPOT " + i + " comes behind the one ahead: " + text, ahead < rank);
            ahead = rank;
            votes += x.spot(i, 3);
            due("VOTES of SPOT " + i, x.spot(i, 3), x.votes(x.spot(i, 0), x.spot(i, 1), x.spot(i, 2)));
        }
        due("all VOTES", x.spots(1), votes);
    }

    private static long rank(ArcRings x, int place) {
        return ((1000L - x.spot(place, 3)) * 100 + x.spot(place, 2)) * 10000 + x.spot(place, 1) * 100 + x.spot(place, 0);
    }

    private void supporters() {
        ArcRings x = Sheets.of(Sheets.WHOLE);
        // their distances from the CENTRE, doubled, squared: 50, 82, 170, 226, 290
        x.dot(13, 13, -1);
        x.dot(15, 10, -1);
        x.dot(17, 10, -1);
        x.dot(18, 10, -1);
        x.dot(19, 10, -1);
        x.bound(0, 5);
        x.bound(1, 5);
        int[] bits = {0xff, 0xff | 1 << 9, 0xff | 1 << 9 | 1 << 10, 0xff | 1 << 8 | 1 << 9 | 1 << 10,
            0xff | 1 << 8 | 1 << 9 | 1 << 10 | 1 << 11};
        for (int slack = 0; slack <= 4; slack++) {
            x.bound(2, slack);
            int place = 0;
            while (place < x.spots(0) && (x.spot(place, 0) != 10 || x.spot(place, 1) != 10)) {
                place++;
            }
            due("SUPPORTERS by SLACK " + slack, bits[slack], x.spot(place, 6));
            due("how many by SLACK " + slack, Integer.bitCount(bits[slack]), x.spot(place, 4));
        }
        for (int turn = 0; turn < 8; turn++) {
            ArcRings y = Sheets.of(Sheets.WHOLE);
            y.lift(0);
            y.dot(16, 12, turn);
            // the CENTRE is at -11, -3 from there: TURN 4 points nearly so, 5 by 29.7 degrees, 3 by 60.3
            due("SUPPORTS by TURN " + turn, turn == 4 || turn == 5 ? 8 : 7, y.spot(0, 4));
            due("SPAN by TURN " + turn, turn == 4 || turn == 5 ? 8 : 7, y.spot(0, 5));
        }
        for (int gone = 0; gone < 8; gone++) {
            ArcRings y = Sheets.of(Sheets.WHOLE);
            y.lift(gone);
            due("SPAN without " + gone, 7, y.spot(0, 5));
            due("bits without " + gone, 127, y.spot(0, 6));
        }
    }

    // 17
    private void spotTotals() {
        ArcRings x = Sheets.of(Sheets.WHOLE);
        int[] want = {1, 56, 56, 1};
        for (int what = 0; what < 4; what++) {
            due("spots(" + what + ")", want[what], x.spots(what));
        }
        due("spots(-1)", OUTSIDE, x.spots(-1));
        due("spots(4)", OUTSIDE, x.spots(4));
        ArcRings empty = Sheets.of("9x9:00-11-22-33-");
        for (int what = 0; what < 4; what++) {
            due("spots(" + what + ") of a line", 0, empty.spots(what));
        }
        // round 3, 3 and round 13, 3, each by 3, a vote each
        ArcRings two = Sheets.of("31x31:a30d02g34030302634");
        two.bound(1, 3);
        int[] each = {2, 2, 16, 2};
        for (int what = 0; what < 4; what++) {
            due("spots(" + what + ") of two", each[what], two.spots(what));
        }
        due("the first of two", 3, two.spot(0, 0));
        due("the other one", 13, two.spot(1, 0));
    }

    // 18
    private void hunting() {
        ArcRings x = Sheets.of(Sheets.WHOLE);
        due("hunt()", 1, x.hunt());
        due("count(5)", 1, x.count(5));
        due("hunt() again", 1, x.hunt());
        due("count(5) again", 2, x.count(5));
        x.bound(3, 8);
        due("hunt() by NEED 8", 1, x.hunt());
        x.bound(4, 8);
        due("hunt() by ROUND 8", 1, x.hunt());
        x.bound(3, 9);
        due("hunt() by NEED 9", 0, x.hunt());
        due("HUNTED, though no RINGS", 0, x.split());
        x.bound(3, 2);
        x.lift(0);
        due("hunt() by ROUND 8 of seven", 0, x.hunt());
        x.bound(4, 7);
        due("hunt() by ROUND 7 of seven", 1, x.hunt());
        due("hunt() without DOTS", 0, Sheets.of("4x4:").hunt());
    }

    /** The most DOTS times SPAN goes first, not the most VOTES; a DOT that was taken helps no other SPOT. */
    private void huntOrder() {
        for (int seed = 0; seed < 30; seed++) {
            ArcRings x = Sheets.of("20x20:");
            x.strew(14, seed);
            x.bound(0, 1);
            x.bound(3, 2);
            x.bound(4, 1 + seed % 3);
            int rings = x.hunt();
            firstIsBest(x, seed);
            int taken = 0;
            for (int ring = 0; ring < rings; ring++) {
                due("RING " + ring + " of seed " + seed + " takes none twice", 0, taken & x.ring(ring, 4));
                taken |= x.ring(ring, 4);
            }
            due("DOTS of RINGS, seed " + seed, Integer.bitCount(taken), x.count(2));
        }
    }

    private void firstIsBest(ArcRings x, int seed) {
        int most = 0;
        int best = NONE;
        int many = x.spots(0);
        checks.holds("no more SPOTS than an object has calls for", many < 200);
        for (int i = 0; i < many; i++) {
            int dots = x.spot(i, 4);
            int span = x.spot(i, 5);
            if (dots >= 2 && span >= 1 + seed % 3 && dots * span > most) {
                most = dots * span;
                best = i;
            }
        }
        due("a RING of seed " + seed, best == NONE ? 0 : 1, Math.min(1, x.count(1)));
        for (int what = 0; what < 3 && best != NONE; what++) {
            due("the first RING of seed " + seed, x.spot(best, what), x.ring(0, what));
        }
    }

    private void huntedIsGone() {
        ArcRings x = Sheets.of(Sheets.WHOLE);
        String[] deeds = {"dot", "lift", "arc", "strew", "bound", "sheet"};
        for (int deed = 0; deed < deeds.length; deed++) {
            x.hunt();
            due("HUNTED ahead of " + deeds[deed], x.count(1), x.split());
            switch (deed) {
                case 0: x.dot(0, 0, 0); break;
                case 1: x.lift(8); break;
                case 2: x.arc(2, 2, 2, 1); break;
                case 3: x.strew(1, 5); break;
                case 4: x.bound(2, 1); break;
                default: Sheets.type(x, "9x9:"); x.sheet(); break;
            }
            due("split() after " + deeds[deed], STATE, x.split());
            due("ring(0, 0) after " + deeds[deed], UNKNOWN, x.ring(0, 0));
            due("as(0, 0) after " + deeds[deed], UNKNOWN, x.as(0, 0));
            due("told(0, 3) after " + deeds[deed], deed == 5 ? UNKNOWN : NONE, x.told(0, 3));
            due("count(1) after " + deeds[deed], 0, x.count(1));
            due("count(2) after " + deeds[deed], 0, x.count(2));
        }
        ArcRings y = Sheets.of(Sheets.WHOLE);
        y.hunt();
        y.dot(16, 12, 0);
        y.dot(0, 0, 8);
        y.lift(8);
        y.arc(10, 10, 5, 0);
        y.arc(-31, -31, 1, 255);
        y.strew(0, 0);
        y.bound(0, 0);
        y.bound(7, 1);
        y.sheet();
        y.blank();
        y.spots(0);
        y.digest();
        due("HUNTED after refusals", 1, y.split());
        due("its RING after refusals", 255, y.ring(0, 4));
    }

    // 19: more of it stands in SplitTest
    private void splitting() {
        ArcRings x = Sheets.of(Sheets.WHOLE);
        due("split() unhunted", STATE, x.split());
        x.hunt();
        due("split()", 1, x.split());
        due("split() again", 1, x.split());
        due("its DOTS", 255, x.ring(0, 4));
        due("given up", 0, x.count(6));
    }

    // 20 and 21
    private void toldOfRings() {
        ArcRings x = Sheets.of(Sheets.WHOLE);
        x.hunt();
        int[] want = {10, 10, 5, 8, 255, 8, 0};
        for (int what = 0; what < 7; what++) {
            due("ring(0, " + what + ")", want[what], x.ring(0, what));
        }
        due("ring(0, 7)", OUTSIDE, x.ring(0, 7));
        due("ring(0, -1)", OUTSIDE, x.ring(0, -1));
        due("ring(1, 0)", UNKNOWN, x.ring(1, 0));
        due("ring(-1, 0)", UNKNOWN, x.ring(-1, 0));
        due("ring(1, 9)", UNKNOWN, x.ring(1, 9));
        due("as(0, 0)", 0, x.as(0, 0));
        due("as(0, 1)", NONE, x.as(0, 1));
        due("as(0, 2)", OUTSIDE, x.as(0, 2));
        due("as(0, -1)", OUTSIDE, x.as(0, -1));
        due("as(1, 2)", UNKNOWN, x.as(1, 2));
        due("as(-1, 0)", UNKNOWN, x.as(-1, 0));
        x.lift(3);
        x.hunt();
        due("KIND of seven", 1, x.ring(0, 6));
        due("SPAN of seven", 7, x.ring(0, 5));
        due("as(0, 0) of seven", NONE, x.as(0, 0));
        due("as(0, 1) of seven", 0, x.as(0, 1));
        ArcRings two = twoRings(10, 5, 11, 11, 3);
        due("as(1, 1)", 1, two.as(1, 1));
        due("as(1, 0)", NONE, two.as(1, 0));
        due("ring(1, 1)", 16, two.ring(1, 1));
        due("ring(1, 4)", 240, two.ring(1, 4));
        due("told(5, 3)", 1, two.told(5, 3));
    }

    private static ArcRings twoRings(int cx, int cy, int apart, int u, int v) {
        ArcRings x = Sheets.of("31x31:");
        Sheets.four(x, cx, cy, 11, 3);
        Sheets.four(x, cx, cy + apart, u, v);
        x.bound(2, 0);
        x.bound(4, 4);
        x.hunt();
        return x;
    }

    private static ArcRings inner(int apart) {
        ArcRings x = Sheets.of("31x31:");
        Sheets.four(x, 15, 15, 19, 9);
        Sheets.four(x, 15, 15 + apart, 5, 3);
        x.bound(2, 0);
        x.bound(4, 4);
        x.hunt();
        return x;
    }

    // 22
    private void crossing() {
        int[] outer = {10, 1, 11, 1, 12, 0, 13, 0};
        for (int i = 0; i < outer.length; i += 2) {
            ArcRings x = twoRings(10, 5, outer[i], 11, 3);
            due("two RINGS " + outer[i] + " apart", 2, x.count(1));
            due("cross(0, 1), " + outer[i] + " apart", outer[i + 1], x.cross(0, 1));
            due("cross(1, 0), " + outer[i] + " apart", outer[i + 1], x.cross(1, 0));
        }
        int[] within = {6, 0, 7, 0, 8, 1, 9, 1};
        for (int i = 0; i < within.length; i += 2) {
            ArcRings x = inner(within[i]);
            due("RADII of an inner one", 12, x.ring(0, 2) + x.ring(1, 2));
            due("cross(0, 1), " + within[i] + " off the middle", within[i + 1], x.cross(0, 1));
            due("cross(1, 0), " + within[i] + " off the middle", within[i + 1], x.cross(1, 0));
        }
        ArcRings x = inner(8);
        due("cross(0, 0)", UNKNOWN, x.cross(0, 0));
        due("cross(1, 1)", UNKNOWN, x.cross(1, 1));
        due("cross(0, 2)", UNKNOWN, x.cross(0, 2));
        due("cross(2, 0)", UNKNOWN, x.cross(2, 0));
        due("cross(-1, 0)", UNKNOWN, x.cross(-1, 0));
        due("cross(0, -1)", UNKNOWN, x.cross(0, -1));
        x.bound(2, 0);
        due("cross(0, 1) unhunted", UNKNOWN, x.cross(0, 1));
    }

    // 23
    private void counts() {
        ArcRings x = Sheets.of(Sheets.WHOLE);
        x.dot(30, 30, 3);
        x.hunt();
        x.letter(65);
        x.letter(66);
        int[] want = {9, 1, 8, 2, 1, 1, 0};
        for (int what = 0; what < 7; what++) {
            due("count(" + what + ")", want[what], x.count(what));
        }
        due("count(7)", OUTSIDE, x.count(7));
        due("count(-1)", OUTSIDE, x.count(-1));
        x.blank();
        Sheets.type(x, "4x4:11-");
        x.sheet();
        due("count(0) of another", 1, x.count(0));
        due("count(4) of another", 2, x.count(4));
    }

    // 24
    private void digests() {
        ArcRings x = new ArcRings();
        due("digest() of a new one", mix(1559, 0, 0, 0, 0, 0, 0, 0), x.digest());
        Sheets.type(x, "4x");
        due("digest() with letters", mix(1559, '4', 'x', 0, 0, 0, 2, 0, 0, 0), x.digest());
        x.sheet();
        x.hunt();
        due("digest() after refusals", mix(1559, '4', 'x', 0, 0, 0, 2, 0, 0, 0), x.digest());
        Sheets.type(x, "5:");
        x.sheet();
        due("digest() of an empty SHEET", mix(1559, 4, 5, 0, 2, 12, 1, 4, 3, 0, 0, 0, 0, 0, 0, 0, 0, 1, 0, 0), x.digest());
        x.letter(126);
        x.dot(3, 4, 5);
        x.dot(0, 1, -1);
        x.hunt();
        due("digest() with DOTS", mix(1559, 4, 5, 2, 2, 12, 1, 4, 3, 3, 4, 5, NONE, 0, 1, NONE, NONE,
            0, 0, 0, 0, 126, 2, 0, 0, 1, 1, 1, 0), x.digest());
        ArcRings y = Sheets.of("31x31:gc-5c-59-");
        y.bound(3, 3);
        y.hunt();
        y.letter(32);
        due("digest() with a RING", mix(1559, 31, 31, 3, 2, 12, 1, 3, 3, 16, 12, NONE, 0, 5, 12, NONE, 0, 5, 9, NONE, 0,
            1, 1, 1, 1, 10, 10, 5, 1, 3, 3, 7, 10, 10, 5, 3, 7, 3, 1, 32, 3, 1, 3, 1, 1, 1, 0), y.digest());
        due("digest() again", y.digest(), y.digest());
    }

    private static long mix(long h, int... numbers) {
        long mixed = h;
        for (int number : numbers) {
            mixed = 31 * mixed + number;
        }
        return mixed;
    }
}
