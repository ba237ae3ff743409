import java.util.function.Supplier;

/** What the document says of the edges of RINGS, terms 3 and promises 18 to 24: each sentence by itself. */
public final class EdgeRingsTest {
    private static final int NONE = Sheets.NONE, UNKNOWN = Sheets.UNKNOWN, OUTSIDE = Sheets.OUTSIDE, STATE = Sheets.STATE;
    private static final int[] FAR_OFF = {Integer.MIN_VALUE, -65536, -257, -256, -32, 32, 256, 257, 65536, Integer.MAX_VALUE};
    private static final int[] LOOSE = {1, 22, 0, 2, 1};
    /** Two RINGS; DOT 1 is as far from the line of each, DOT 3 SUPPORTS none. */
    private static final String TIED = "18x6:04-74-41-d4-72-81-";

    private final Checks checks = new Checks();

    public static void main(String[] args) {
        EdgeRingsTest test = new EdgeRingsTest();
        test.hunting();
        test.keptOrGone();
        test.splitting();
        test.kinds();
        test.ring();
        test.as();
        test.cross();
        test.counts();
        test.digests();
        test.checks.end();
    }

    private void hunting() {
        needAtLeast();
        roundAtLeast();
        numberTimesSpan();
        ofSeveralTheFirst();
        freeSupporters();
        freeSpan();
        tillThereIsNone();
        fewerThanBefore();
        sevenRings();
        oneOfFourteen();
        allFreeAtFirst();
        huntNoSheet();
    }

    private void splitting() {
        splitUnhunted();
        splitOfNone();
        splitTied();
        splitOfNoRing();
        splitExactlyNeed();
        splitFewest();
        splitGreatestNumber();
        splitAnew();
        splitManyTimes();
        splitOfSeven();
    }

    /** So many DOTS of WHOLE, the last ones left away. */
    private static ArcRings some(int many, int... bounds) {
        return Sheets.of(Sheets.WHOLE.substring(0, 6 + 3 * many), bounds);
    }

    /** What the slow model says of such a SHEET, so that no answer is due only because the class gave it. */
    private static String modelRings(String text, int[] bounds, boolean split) {
        Model model = new Model();
        for (char letter : text.toCharArray()) {
            model.letter(letter);
        }
        model.sheet();
        model.bound(1, 22);
        for (int what = 0; what < bounds.length; what++) {
            model.bound(what, bounds[what]);
        }
        model.hunt();
        int many = split ? model.split() : model.count(1);
        StringBuilder all = new StringBuilder();
        for (int i = 0; i < many; i++) {
            all.append(model.ring(i, 0)).append(',').append(model.ring(i, 1)).append(',').append(model.ring(i, 2));
            all.append(':').append(model.ring(i, 4)).append(' ');
        }
        return all.toString().trim();
    }

    private void ringsDue(String text, int[] bounds, String want) {
        checks.same("RINGS by the model, " + text, want, modelRings(text, bounds, false));
        ArcRings x = Sheets.of(text, bounds);
        int many = want.isEmpty() ? 0 : want.split(" ").length;
        checks.due("hunt() of " + text, many, x.hunt());
        checks.same("RINGS of " + text, want, Sheets.rings(x));
    }

    private void splitDue(String text, int[] bounds, String kept, String left) {
        checks.same("KEPT by the model, " + text, kept, modelRings(text, bounds, false));
        checks.same("left by the model, " + text, left, modelRings(text, bounds, true));
        ArcRings x = Sheets.of(text, bounds);
        int many = kept.split(" ").length;
        int then = left.split(" ").length;
        checks.due("hunt() of " + text, many, x.hunt());
        checks.same("KEPT of " + text, kept, Sheets.rings(x));
        checks.due("split() of " + text, then, x.split());
        checks.same("left of " + text, left, Sheets.rings(x));
        checks.due("count(6) of " + text, many - then, x.count(6));
        checks.due("split() again of " + text, then, x.split());
        checks.same("left of " + text + " again", left, Sheets.rings(x));
        checks.due("count(6) of " + text + " again", many - then, x.count(6));
    }

    // ---- 18, terms 3: HUNT

    private void needAtLeast() {
        checks.sentence("terms 3: whose FREE SUPPORTERS are NEED at least");
        for (int many = 3; many <= 8; many++) {
            checks.due(many + " by NEED " + many, 1, some(many, 2, 12, 1, many, 1).hunt());
            checks.due(many + " by NEED one more", 0, some(many, 2, 12, 1, many + 1, 1).hunt());
            checks.due(many + " by NEED one less", 1, some(many, 2, 12, 1, many - 1, 1).hunt());
        }
        checks.due("none by NEED 2", 0, Sheets.of("9x9:00-02-34-", LOOSE).hunt());
    }

    private void roundAtLeast() {
        checks.sentence("terms 3: with a SPAN of ROUND at least");
        for (int many = 3; many <= 8; many++) {
            checks.due(many + " by ROUND " + many, 1, some(many, 2, 12, 1, 2, many).hunt());
            if (many < 8) {
                checks.due(many + " by ROUND one more", 0, some(many, 2, 12, 1, 2, many + 1).hunt());
            }
            checks.due(many + " by ROUND 1", 1, some(many, 2, 12, 1, 2, 1).hunt());
        }
    }

    private void numberTimesSpan() {
        checks.sentence("terms 3: the one for which their number times their SPAN is greatest");
        int[] first = {2, 12, 1, 4, 3};
        // 4 by 4, though another has 5 by 3
        ringsDue("8x13:26-37-13-22-12-", first, "3,4,2:15");
        // 6 by 3, though another has 4 by 4
        ringsDue("7x6:41-11-62-31-53-32-", first, "2,4,3:63");
        // 5 by 5, though it is the fourth in order
        ringsDue("8x9:30-60-12-23-65-", first, "4,2,3:31");
    }

    private void ofSeveralTheFirst() {
        checks.sentence("terms 3: of several the first in order");
        int[] first = {2, 12, 1, 4, 3};
        String[] texts = {"7x7:00-30-64-06-43-", "12x9:03-a1-73-12-58-", "12x14:33-6a-a3-88-96-", "10x9:68-02-91-21-88-"};
        // by more VOTES than 0,2,3; by a lesser r than 5,2,5; by a lesser cy than 5,6,3; by a lesser cx than 5,3,4
        String[] rings = {"2,3,3:15", "3,5,3:29", "6,4,3:29", "4,3,4:15"};
        for (int i = 0; i < 4; i++) {
            ringsDue(texts[i], first, rings[i]);
        }
    }

    private void freeSupporters() {
        checks.sentence("terms 3: FREE SUPPORTERS: these DOTS are its own, FREE no more");
        // 4,4,5 has four SUPPORTERS, three of them FREE
        String text = "16x16:79-53-2a-b0-11-57-93-";
        ringsDue(text, new int[] {2, 12, 1, 4, 3}, "9,4,4:43");
        ringsDue(text, new int[] {2, 12, 1, 3, 3}, "9,4,4:43 4,4,5:84");
        ArcRings x = Sheets.of(text, 2, 12, 1, 3, 3);
        x.hunt();
        checks.due("a DOT that both have is of the first", 0, x.told(0, 3));
        checks.due("one that the other has alone", 1, x.told(2, 3));
    }

    private void freeSpan() {
        checks.sentence("terms 3: with a SPAN of ROUND at least (of the FREE ones)");
        // 3,4,3 has five SUPPORTERS by a SPAN of 3; four of them are FREE, by a SPAN of 2
        String text = "13x5:12-71-31-c3-73-02-b4-03-80-";
        ringsDue(text, new int[] {2, 12, 1, 4, 3}, "9,2,2:346");
        ringsDue(text, new int[] {2, 12, 1, 4, 2}, "9,2,2:346 3,4,3:165");
    }

    private void tillThereIsNone() {
        checks.sentence("terms 3: till there is no such SPOT (there is none at all)");
        String[] texts = {"9x9:", "9x9:00-", "9x9:00-50-", "9x9:00-11-22-33-", "4x4:00-10-01-"};
        for (String text : texts) {
            ArcRings x = Sheets.of(text, LOOSE);
            checks.due("hunt() of " + text, 0, x.hunt());
            checks.due("it is HUNTED, without RINGS: " + text, 0, x.split());
            checks.due("ring(0, 0) of " + text, UNKNOWN, x.ring(0, 0));
            checks.due("count(5) of " + text, 1, x.count(5));
        }
    }

    private void fewerThanBefore() {
        checks.sentence("terms 3: till there is no such SPOT (there were more of them ahead of a change)");
        ArcRings x = Sheets.of(Sheets.WHOLE, 2, 12, 1, 2, 1);
        checks.due("hunt()", 1, x.hunt());
        x.bound(1, 4);
        checks.due("hunt() when no RADIUS is fit", 0, x.hunt());
        checks.due("spot(0, 0)", UNKNOWN, x.spot(0, 0));
        x.bound(1, 12);
        checks.due("hunt() as before", 1, x.hunt());
        for (int left = 7; left >= 2; left--) {
            x.lift(left);
            checks.due("hunt() of " + left, left < 3 ? 0 : 1, x.hunt());
        }
        ArcRings many = Sheets.of(Sheets.SHRINKING, Sheets.SHRINKING_BOUNDS);
        checks.due("hunt() of many", 6, many.hunt());
        while (many.count(0) > 3) {
            many.lift(3);
        }
        ArcRings few = Sheets.of(Sheets.SHRINKING.substring(0, 15), Sheets.SHRINKING_BOUNDS);
        checks.due("hunt() of three", few.hunt(), many.hunt());
        checks.same("RINGS of three", Sheets.rings(few), Sheets.rings(many));
        checks.same("SPOTS of three", Sheets.spots(few), Sheets.spots(many));
    }

    private void sevenRings() {
        checks.sentence("18: HUNT: how many RINGS (as many as 14 DOTS may have)");
        String[] texts = {"22x24:1721b7ai5h02ba01129347d7fc7e83fn58g0854ld6", "20x14:i65c62j22555fb59901c0a45g31f76624975c04101",
            "26x13:g86ob4d24gc6h755b7e845a6d97d53j44f61f93k75"};
        for (String text : texts) {
            ArcRings x = Sheets.of(text, LOOSE);
            checks.due("hunt() of " + text, 7, x.hunt());
            checks.due("count(1)", 7, x.count(1));
            checks.due("count(2)", 14, x.count(2));
            int bits = 0;
            for (int ring = 0; ring < 7; ring++) {
                checks.due("DOTS of RING " + ring, 2, x.ring(ring, 3));
                bits |= x.ring(ring, 4);
            }
            checks.due("all DOTS", 16383, bits);
            checks.due("ring(7, 0)", UNKNOWN, x.ring(7, 0));
            checks.holds("as(6, 1)", x.as(6, 1) == 6);
            checks.holds("cross(6, 0)", x.cross(6, 0) == x.cross(0, 6) && x.cross(6, 0) >= 0);
        }
    }

    private void oneOfFourteen() {
        checks.sentence("18: HUNT: how many RINGS (one with all 14 DOTS)");
        ArcRings x = Sheets.of(Sheets.ROUND_ABOUT, 8, 8, 2, 14, 8);
        checks.due("hunt() by NEED 14, ROUND 8", 1, x.hunt());
        checks.due("ring(0, 3)", 14, x.ring(0, 3));
        checks.due("ring(0, 4)", 16383, x.ring(0, 4));
        checks.due("ring(0, 5)", 8, x.ring(0, 5));
        checks.due("count(2)", 14, x.count(2));
        checks.due("split()", 1, x.split());
        x.lift(13);
        checks.due("hunt() of 13", 0, x.hunt());
    }

    private void allFreeAtFirst() {
        checks.sentence("terms 3: HUNT: all DOTS are FREE at first, nothing is KEPT");
        ArcRings x = Sheets.of(Sheets.SHRINKING, Sheets.SHRINKING_BOUNDS);
        checks.due("hunt()", 6, x.hunt());
        String kept = Sheets.rings(x);
        checks.due("hunt() again", 6, x.hunt());
        checks.same("RINGS again", kept, Sheets.rings(x));
        checks.due("split()", 3, x.split());
        checks.due("hunt() behind split()", 6, x.hunt());
        checks.same("RINGS behind split()", kept, Sheets.rings(x));
        checks.due("count(5)", 3, x.count(5));
        checks.due("count(6)", 3, x.count(6));
    }

    private void huntNoSheet() {
        checks.sentence("18: STATE: no SHEET");
        ArcRings x = Sheets.paged("9x9:");
        checks.due("hunt()", STATE, x.hunt());
        checks.due("count(5)", 0, x.count(5));
        checks.due("split()", STATE, x.split());
    }

    // ---- terms 3: what is HUNTED is gone, or stays

    private void keptOrGone() {
        goneWhenADotComesOrGoes();
        goneWithItsSheet();
        stays();
    }

    private void goneDue(String by, ArcRings x) {
        checks.due("split() behind " + by, STATE, x.split());
        checks.due("ring(0, 0) behind " + by, UNKNOWN, x.ring(0, 0));
        checks.due("as(0, 0) behind " + by, UNKNOWN, x.as(0, 0));
        checks.due("cross(0, 1) behind " + by, UNKNOWN, x.cross(0, 1));
        checks.due("count(1) behind " + by, 0, x.count(1));
        checks.due("count(2) behind " + by, 0, x.count(2));
        for (int dot = 0; dot < x.count(0); dot++) {
            checks.due("told(" + dot + ", 3) behind " + by, NONE, x.told(dot, 3));
        }
    }

    private ArcRings twoHunted() {
        ArcRings x = Sheets.of(TIED, LOOSE);
        checks.due("hunt()", 2, x.hunt());
        return x;
    }

    private void goneWhenADotComesOrGoes() {
        checks.sentence("terms 3: What is HUNTED is gone, when a DOT comes or goes");
        ArcRings x = twoHunted();
        checks.due("dot(17, 5, -1)", 6, x.dot(17, 5, NONE));
        goneDue("dot()", x);
        x = twoHunted();
        checks.due("lift(5)", 5, x.lift(5));
        goneDue("lift()", x);
        x = twoHunted();
        checks.due("lift(3), of no RING", 5, x.lift(3));
        goneDue("lift() of one of no RING", x);
        x = twoHunted();
        checks.due("arc(16, 3, 1, 3)", 2, x.arc(16, 3, 1, 3));
        goneDue("arc()", x);
        x = twoHunted();
        checks.due("arc(-1, 0, 1, 255)", 1, x.arc(-1, 0, 1, 255));
        goneDue("arc() by which one came", x);
        x = twoHunted();
        checks.due("strew(1, 5)", 1, x.strew(1, 5));
        goneDue("strew()", x);
    }

    private void goneWithItsSheet() {
        checks.sentence("5: another one is gone (with what is HUNTED)");
        ArcRings x = twoHunted();
        Sheets.type(x, TIED);
        x.sheet();
        goneDue("sheet()", x);
        x.hunt();
        Sheets.type(x, "9x9:");
        x.sheet();
        goneDue("sheet() without DOTS", x);
    }

    private void stays() {
        checks.sentence("terms 3: What is HUNTED is gone, when a DOT comes or goes, or by bound() (if it is not refused)");
        ArcRings x = twoHunted();
        String rings = Sheets.rings(x);
        checks.due("dot() beyond", OUTSIDE, x.dot(18, 0, 0));
        checks.due("dot() where one lies", STATE, x.dot(0, 4, 0));
        checks.due("lift(6)", UNKNOWN, x.lift(6));
        checks.due("arc() beyond", OUTSIDE, x.arc(63, 0, 1, 255));
        checks.due("arc() of none", 0, x.arc(5, 3, 1, 0));
        checks.due("arc() off the SHEET", 0, x.arc(-31, -31, 1, 255));
        checks.due("arc() where one lies", 0, x.arc(7, 4, 1, 2));
        checks.due("strew() of 15", OUTSIDE, x.strew(15, 1));
        checks.due("bound() too great", OUTSIDE, x.bound(2, 5));
        checks.due("bound() of none", OUTSIDE, x.bound(5, 1));
        checks.due("letter()", 1, x.letter('4'));
        checks.due("fault()", 1, x.fault());
        checks.due("sheet()", STATE, x.sheet());
        checks.due("blank()", 1, x.blank());
        x.spots(0);
        x.votes(9, 3, 2);
        x.circle(0, 1, 2, 0);
        x.digest();
        checks.same("RINGS", rings, Sheets.rings(x));
        checks.due("split()", 2, x.split());
        ArcRings full = Sheets.of(Sheets.SHRINKING, Sheets.SHRINKING_BOUNDS);
        full.hunt();
        checks.due("dot() on a full one", Sheets.FULL, full.dot(0, 20, 0));
        checks.due("arc() on a full one", 0, full.arc(4, 4, 1, 255));
        checks.due("strew() on a full one", 0, full.strew(14, 1));
        checks.due("RINGS of a full one", 6, full.count(1));
    }

    // ---- 19, terms 3: SPLIT

    private void splitUnhunted() {
        checks.sentence("19: STATE: nothing is HUNTED");
        checks.due("of a new one", STATE, new ArcRings().split());
        ArcRings x = Sheets.of(Sheets.WHOLE);
        checks.due("of a SHEET", STATE, x.split());
        x.hunt();
        checks.due("HUNTED", 1, x.split());
        x.lift(7);
        checks.due("behind lift()", STATE, x.split());
        checks.due("count(6)", 0, x.count(6));
    }

    private void splitOfNone() {
        checks.sentence("19: how many RINGS are left (none were KEPT)");
        ArcRings x = Sheets.of(Sheets.WHOLE, 2, 12, 1, 9, 3);
        checks.due("hunt()", 0, x.hunt());
        checks.due("split()", 0, x.split());
        checks.due("split() again", 0, x.split());
        checks.due("count(6)", 0, x.count(6));
    }

    private void splitTied() {
        checks.sentence("terms 3: least far from 2 r and 1, squared (of several the lesser number)");
        // DOT 1: 26 is as far from 25 as 50 from 49, though 5.1 is farther from 5 than 7.1 from 7
        splitDue(TIED, LOOSE, "9,3,2:50 3,4,3:5", "9,3,2:50 3,4,3:5");
        ArcRings x = Sheets.of("16x16:38-597da27c6ad-e41aa02d7ec-674935fc3d177a2", 1, 12, 3, 3, 2);
        x.hunt();
        checks.due("of the first when KEPT", 0, x.told(8, 3));
        x.split();
        checks.due("of the other one, to which it is nearer", 1, x.told(8, 3));
    }

    private void splitOfNoRing() {
        checks.sentence("terms 3: others are of none");
        ArcRings x = twoHunted();
        x.split();
        int[] of = {1, 0, 1, NONE, 0, 0};
        for (int dot = 0; dot < 6; dot++) {
            checks.due("told(" + dot + ", 3)", of[dot], x.told(dot, 3));
        }
        checks.due("count(2)", 5, x.count(2));
    }

    private void splitExactlyNeed() {
        checks.sentence("terms 3: If there are RINGS with fewer DOTS of their own than NEED");
        // the two that are left have 2 and 4 by a NEED of 2; the first one had 1
        splitDue("22x19:764i029b5653ch68945f6", LOOSE, "3,9,5:76 11,7,9:18 1,9,6:33", "11,7,9:18 1,9,6:105");
        // two by 3, which is NEED
        String both = "3,1,2:831 1,0,1:1216";
        splitDue("7x5:44-23-61-62-20-10-00-30-12-63-01-", new int[] {1, 16, 0, 3, 2}, both, both);
    }

    private void splitFewest() {
        checks.sentence("terms 3: the one of these with fewest is given up");
        // another with too few has the greater number; it is saved by the DOTS of the one given up
        splitDue("31x9:o56j63i23680h14c1-s0-31-q1-23-n14351n35824", new int[] {1, 9, 3, 3, 2},
            "13,8,7:46 13,2,9:5248 10,6,8:2576 19,0,7:321", "13,2,9:5128 10,6,8:2710 19,0,7:353");
        splitDue("24x12:k53556n5-e51246d20c4-00-hb5677f93h147b6h01", new int[] {1, 14, 4, 3, 1},
            "12,0,12:4484 5,0,5:82 17,5,5:8232 12,5,7:2561", "5,0,5:146 17,5,5:8300 12,5,7:6913");
    }

    private void splitGreatestNumber() {
        checks.sentence("terms 3: of several the greatest number is given up (the others keep their order)");
        splitDue("15x17:58-ed43d777152-c6-d50c93661e9-7g-c706e61f0", new int[] {1, 18, 0, 2, 1},
            "9,10,5:291 9,11,5:1544 7,13,6:8320 8,8,7:20 14,6,2:2112", "9,10,5:257 7,13,6:8330 8,8,7:1044 14,6,2:2656");
        splitDue("9x6:80205-45122410-40225175104512244142223470-", new int[] {1, 9, 3, 2, 1},
            "4,3,4:8243 0,3,1:4616 5,5,5:2112 7,5,5:1028", "4,3,4:48 0,3,1:4618 7,5,5:11333");
    }

    private void splitAnew() {
        checks.sentence("terms 3: and all DOTS are told off so anew");
        splitDue("17x9:35-18-f2-05-14-74-e0-", new int[] {1, 22, 0, 2, 2}, "8,6,7:22 7,4,7:72 4,0,4:33", "7,4,7:78 4,0,4:49");
    }

    private void splitManyTimes() {
        checks.sentence("terms 3: till there is none such (three are given up)");
        splitDue(Sheets.SHRINKING, Sheets.SHRINKING_BOUNDS,
            "13,15,10:4236 6,12,4:33 12,4,7:258 14,10,9:2064 13,10,4:8256 7,20,4:1536", "6,12,4:161 13,10,4:12608 7,20,4:3592");
        splitDue("18x13:02-d8-22-f7-gb-43-ga-85-47-98-e2-6a-db-03-", new int[] {1, 20, 0, 4, 2},
            "9,5,5:3336 14,4,6:4752 5,11,10:8261", "5,11,10:8285");
        ArcRings x = Sheets.of(Sheets.SHRINKING, Sheets.SHRINKING_BOUNDS);
        x.hunt();
        x.split();
        checks.due("ring(3, 0)", UNKNOWN, x.ring(3, 0));
        checks.due("as(3, 1)", UNKNOWN, x.as(3, 1));
        checks.due("cross(2, 3)", UNKNOWN, x.cross(2, 3));
    }

    private void splitOfSeven() {
        checks.sentence("terms 3: is given up (of as many RINGS as there may be)");
        splitDue("24x22:c81da4e733c1ki5ff4nf46d7di42338d27c2gb55e2", LOOSE,
            "14,9,2:4097 11,11,5:132 17,12,6:80 5,20,8:2056 0,18,15:514 8,18,5:9216 4,10,11:288",
            "11,11,5:132 17,12,6:80 5,20,8:2056 0,18,15:514 8,18,5:9216 4,10,11:4384");
        splitDue("12x12:675751812694403b53372290b32914581683210110", LOOSE,
            "4,8,2:192 4,8,1:2056 5,2,4:8193 5,3,4:4608 9,8,4:1026 5,5,5:36 3,11,11:272",
            "4,8,2:192 4,8,1:2056 5,2,4:8193 5,3,4:4608 9,8,4:1026 3,11,11:276");
    }

    // ---- terms 3: KIND

    private void kinds() {
        kindByEight();
        kindOfItsOwn();
        kindBehindSplit();
    }

    private void kindByEight() {
        checks.sentence("terms 3: KIND 0 WHOLE, if the SPAN of its DOTS is 8, else 1 OPEN");
        for (int many = 3; many <= 8; many++) {
            ArcRings x = some(many, 2, 12, 1, 2, 1);
            x.hunt();
            checks.due("SPAN of " + many, many, x.ring(0, 5));
            checks.due("KIND of " + many, many == 8 ? 0 : 1, x.ring(0, 6));
        }
        for (int gone = 0; gone < 8; gone++) {
            ArcRings x = Sheets.of(Sheets.WHOLE);
            x.lift(gone);
            x.hunt();
            checks.due("KIND without " + gone, 1, x.ring(0, 6));
        }
    }

    private void kindOfItsOwn() {
        checks.sentence("terms 3: KIND 0 WHOLE, if the SPAN of its DOTS is 8 (of its own, not of all that SUPPORT it)");
        ArcRings x = Sheets.of("8x6:30-10-53-40-60-45-00-11-74-51-34-75-13-63-", 1, 22, 1, 2, 1);
        x.hunt();
        checks.same("RING 1 is the first SPOT", Sheets.words(x.spot(0, 0), x.spot(0, 1), x.spot(0, 2)),
            Sheets.words(x.ring(1, 0), x.ring(1, 1), x.ring(1, 2)));
        checks.due("SPAN of what SUPPORTS it", 8, x.spot(0, 5));
        checks.holds("SPAN of its own", x.ring(1, 5) < 8);
        checks.due("KIND", 1, x.ring(1, 6));
        checks.due("as(1, 0)", NONE, x.as(1, 0));
    }

    private void kindBehindSplit() {
        checks.sentence("terms 3: KIND 0 WHOLE, if the SPAN of its DOTS is 8 (behind a SPLIT)");
        String text = "13x11:12-b8-b4-a6-62-06-29-8a-87-18-04-50-76-79-";
        splitDue(text, new int[] {1, 22, 3, 2, 1}, "5,4,4:12285 8,7,2:4098", "5,4,4:3701 8,7,2:12682");
        ArcRings x = Sheets.of(text, 1, 22, 3, 2, 1);
        x.hunt();
        checks.due("KIND", 0, x.ring(0, 6));
        checks.due("as(0, 0)", 0, x.as(0, 0));
        x.split();
        checks.due("SPAN behind split()", 6, x.ring(0, 5));
        checks.due("KIND behind split()", 1, x.ring(0, 6));
        checks.due("as(0, 0) behind split()", NONE, x.as(0, 0));
    }

    // ---- 20

    private void ring() {
        ringUnknown();
        ringOutside();
    }

    private void ringUnknown() {
        checks.sentence("20: UNKNOWN: ring (or nothing is HUNTED); ahead of OUTSIDE");
        ArcRings none = new ArcRings();
        ArcRings unhunted = Sheets.of(Sheets.WHOLE);
        ArcRings empty = Sheets.of("9x9:");
        empty.hunt();
        ArcRings two = twoHunted();
        for (int what : new int[] {0, 6, 7, -1}) {
            checks.due("no SHEET", UNKNOWN, none.ring(0, what));
            checks.due("unhunted", UNKNOWN, unhunted.ring(0, what));
            checks.due("HUNTED, without RINGS", UNKNOWN, empty.ring(0, what));
            for (int ring : new int[] {-1, -2, 2, 3, 6, 7, 8}) {
                checks.due("ring(" + ring + ", " + what + ") of two", UNKNOWN, two.ring(ring, what));
            }
            for (int far : FAR_OFF) {
                checks.due("ring(" + far + ", " + what + ") of two", UNKNOWN, two.ring(far, what));
            }
        }
        checks.due("ring(1, 2)", 3, two.ring(1, 2));
    }

    private void ringOutside() {
        checks.sentence("20: OUTSIDE: what (0 to 6)");
        ArcRings x = twoHunted();
        for (int ring = 0; ring < 2; ring++) {
            for (int what : new int[] {-1, -2, 7, 8, Integer.MIN_VALUE, Integer.MAX_VALUE}) {
                checks.due("ring(" + ring + ", " + what + ")", OUTSIDE, x.ring(ring, what));
            }
        }
        int[] want = {9, 3, 2, 3, 50, 3, 1};
        for (int what = 0; what < 7; what++) {
            checks.due("ring(0, " + what + ")", want[what], x.ring(0, what));
        }
    }

    // ---- 21

    private void as() {
        asItself();
        asUnknown();
        asOutside();
    }

    private void asItself() {
        checks.sentence("21: its own number, not that of the KIND; NONE: it is none such");
        ArcRings whole = Sheets.of(Sheets.WHOLE);
        whole.hunt();
        checks.due("as(0, 0) of a WHOLE one", 0, whole.as(0, 0));
        checks.due("as(0, 1) of a WHOLE one", NONE, whole.as(0, 1));
        ArcRings two = twoHunted();
        for (int ring = 0; ring < 2; ring++) {
            checks.due("as(" + ring + ", 1) of an OPEN one", ring, two.as(ring, 1));
            checks.due("as(" + ring + ", 0) of an OPEN one", NONE, two.as(ring, 0));
        }
        ArcRings seven = Sheets.of("22x24:1721b7ai5h02ba01129347d7fc7e83fn58g0854ld6", LOOSE);
        seven.hunt();
        for (int ring = 0; ring < 7; ring++) {
            checks.due("as(" + ring + ", 1) of seven", ring, seven.as(ring, 1));
        }
    }

    private void asUnknown() {
        checks.sentence("21: UNKNOWN: ring (or nothing is HUNTED); ahead of OUTSIDE");
        ArcRings none = new ArcRings();
        ArcRings unhunted = Sheets.of(Sheets.WHOLE);
        ArcRings empty = Sheets.of("9x9:");
        empty.hunt();
        ArcRings two = twoHunted();
        for (int kind : new int[] {0, 1, 2, -1}) {
            checks.due("no SHEET", UNKNOWN, none.as(0, kind));
            checks.due("unhunted", UNKNOWN, unhunted.as(0, kind));
            checks.due("HUNTED, without RINGS", UNKNOWN, empty.as(0, kind));
            for (int ring : new int[] {-1, 2, 7, Integer.MIN_VALUE, Integer.MAX_VALUE}) {
                checks.due("as(" + ring + ", " + kind + ") of two", UNKNOWN, two.as(ring, kind));
            }
        }
    }

    private void asOutside() {
        checks.sentence("21: OUTSIDE: kind (0, 1)");
        ArcRings x = twoHunted();
        for (int kind : new int[] {-1, -2, 2, 3, 8, Integer.MIN_VALUE, Integer.MAX_VALUE}) {
            checks.due("as(0, " + kind + ")", OUTSIDE, x.as(0, kind));
            checks.due("as(1, " + kind + ")", OUTSIDE, x.as(1, kind));
        }
    }

    // ---- 22

    private void cross() {
        crossOutside();
        crossInside();
        crossUnknown();
    }

    private void crossDue(int[] one, int[] other, int want) {
        ArcRings x = Sheets.of("31x31:", 1, 22, 0, 4, 4);
        Sheets.four(x, one[0], one[1], one[2], one[3]);
        Sheets.four(x, other[0], other[1], other[2], other[3]);
        checks.due("RINGS", 2, x.hunt());
        String where = Sheets.rings(x);
        checks.holds("they lie there: " + where, where.contains(one[0] + "," + one[1] + "," + one[4] + ":")
            && where.contains(other[0] + "," + other[1] + "," + other[4] + ":"));
        checks.due("cross(0, 1) of " + where, want, x.cross(0, 1));
        checks.due("cross(1, 0) of " + where, want, x.cross(1, 0));
    }

    private void crossOutside() {
        checks.sentence("22: their CENTRES are no farther apart than both radii together, each r and a half");
        // both of r 5: 11 together
        int[][] apart = {{0, 10, 1}, {0, 11, 1}, {0, 12, 0}, {1, 11, 0}, {-1, 11, 0}, {4, 10, 1}, {5, 10, 0}, {2, 11, 0},
            {-3, 10, 1}};
        for (int[] way : apart) {
            crossDue(new int[] {12, 5, 11, 3, 5}, new int[] {12 + way[0], 5 + way[1], 11, 3, 5}, way[2]);
        }
        // r 5 and r 2: 8 together
        int[][] unlike = {{0, 8, 1}, {1, 8, 0}, {0, 9, 0}};
        for (int[] way : unlike) {
            crossDue(new int[] {12, 5, 11, 3, 5}, new int[] {12 + way[0], 5 + way[1], 5, 1, 2}, way[2]);
        }
    }

    private void crossInside() {
        checks.sentence("22: and no nearer than one of these less the other one");
        // r 10 and r 2: 8
        int[][] within = {{0, 1, 0}, {0, 7, 0}, {0, 8, 1}, {0, 9, 1}, {1, 8, 1}, {3, 7, 0}, {4, 7, 1}, {-1, 8, 1}};
        for (int[] way : within) {
            crossDue(new int[] {15, 15, 19, 9, 10}, new int[] {15 + way[0], 15 + way[1], 5, 3, 2}, way[2]);
        }
    }

    private void crossUnknown() {
        checks.sentence("22: UNKNOWN: one, other (two unlike RINGS; or nothing is HUNTED)");
        checks.due("no SHEET", UNKNOWN, new ArcRings().cross(0, 1));
        checks.due("unhunted", UNKNOWN, Sheets.of(TIED, LOOSE).cross(0, 1));
        ArcRings one = Sheets.of(Sheets.WHOLE);
        one.hunt();
        checks.due("of one", UNKNOWN, one.cross(0, 1));
        checks.due("of one, turned", UNKNOWN, one.cross(1, 0));
        checks.due("of one with itself", UNKNOWN, one.cross(0, 0));
        ArcRings two = twoHunted();
        int[][] wrong = {{0, 0}, {1, 1}, {2, 2}, {-1, -1}, {0, 2}, {2, 0}, {1, 2}, {2, 1}, {-1, 0}, {0, -1}, {1, 7}};
        for (int[] w : wrong) {
            checks.due("cross(" + w[0] + ", " + w[1] + ")", UNKNOWN, two.cross(w[0], w[1]));
        }
        for (int far : FAR_OFF) {
            checks.due("cross(" + far + ", 0)", UNKNOWN, two.cross(far, 0));
            checks.due("cross(0, " + far + ")", UNKNOWN, two.cross(0, far));
        }
        checks.holds("cross(0, 1)", two.cross(0, 1) == 0 || two.cross(0, 1) == 1);
    }

    // ---- 23

    private void counts() {
        countOutside();
        countUnhunted();
        countsOfAll();
        countWhatWasDone();
    }

    private void countOutside() {
        checks.sentence("23: OUTSIDE: what (0 to 6)");
        ArcRings none = new ArcRings();
        ArcRings x = twoHunted();
        for (int what : new int[] {-1, -2, 7, 8, Integer.MIN_VALUE, Integer.MAX_VALUE}) {
            checks.due("no SHEET: count(" + what + ")", OUTSIDE, none.count(what));
            checks.due("count(" + what + ")", OUTSIDE, x.count(what));
        }
        checks.same("of a new one", "0 0 0 0 0 0 0", Sheets.counts(none));
    }

    private void countUnhunted() {
        checks.sentence("23: 1 RINGS (0: nothing is HUNTED), 2 DOTS that are of some RING");
        ArcRings x = Sheets.of(TIED, LOOSE);
        checks.same("unhunted", "6 0 0 0 1 0 0", Sheets.counts(x));
        x.hunt();
        checks.same("HUNTED", "6 2 5 0 1 1 0", Sheets.counts(x));
        x.bound(3, 2);
        checks.same("gone", "6 0 0 0 1 1 0", Sheets.counts(x));
        x.bound(3, 14);
        x.hunt();
        checks.same("HUNTED, without RINGS", "6 0 0 0 1 2 0", Sheets.counts(x));
    }

    private void countsOfAll() {
        checks.sentence("23: How many (all there may be)");
        ArcRings x = Sheets.of("20x14:i65c62j22555fb59901c0a45g31f76624975c04101", LOOSE);
        x.hunt();
        for (int i = 0; i < 60; i++) {
            x.letter('a');
        }
        checks.same("all", "14 7 14 50 1 1 0", Sheets.counts(x));
    }

    private void countWhatWasDone() {
        checks.sentence("23: 4 how often a SHEET was read, 5 how often DOTS were HUNTED, 6 .. given up by SPLITS, ever");
        ArcRings x = new ArcRings();
        for (int time = 1; time <= 3; time++) {
            Sheets.type(x, Sheets.SHRINKING);
            x.sheet();
            x.sheet();
            x.bound(1, 22);
            for (int what = 0; what < 5; what++) {
                x.bound(what, Sheets.SHRINKING_BOUNDS[what]);
            }
            x.hunt();
            x.split();
            x.split();
            checks.same("time " + time, "14 3 11 0 " + time + " " + time + " " + 3 * time, Sheets.counts(x));
        }
        Sheets.type(x, "4x4:");
        x.sheet();
        checks.same("behind another SHEET", "0 0 0 0 4 3 9", Sheets.counts(x));
        x.split();
        checks.same("behind a refused split()", "0 0 0 0 4 3 9", Sheets.counts(x));
    }

    // ---- 24

    private void digests() {
        digestOfNothing();
        digestOfAFullPage();
        digestWithoutDots();
        digestWraps();
        digestFirstOfAll();
        digestChangesNothing();
    }

    private static long mixed(long h, long... numbers) {
        long then = h;
        for (long number : numbers) {
            then = 31L * then + number;
        }
        return then;
    }

    private void digestOfNothing() {
        checks.sentence("24: h is 1559, .. with a SHEET .. (there is none, nor letters)");
        checks.due("digest() of a new one", mixed(1559, 0, 0, 0, 0, 0, 0, 0), new ArcRings().digest());
        checks.due("by number", 1559L * 31 * 31 * 31 * 31 * 31 * 31 * 31, new ArcRings().digest());
    }

    private void digestOfAFullPage() {
        checks.sentence("24: letters of THE PAGE (it is full)");
        ArcRings x = new ArcRings();
        long h = 1559;
        for (int i = 0; i < 50; i++) {
            x.letter(32 + i);
            h = mixed(h, 32 + i);
        }
        checks.due("digest()", mixed(h, 0, 0, 0, 50, 0, 0, 0), x.digest());
        x.letter('a');
        checks.due("digest() behind FULL", mixed(h, 0, 0, 0, 50, 0, 0, 0), x.digest());
        x.blank();
        checks.due("digest() behind blank()", mixed(1559, 0, 0, 0, 0, 0, 0, 0), x.digest());
    }

    private void digestWithoutDots() {
        checks.sentence("24: with a SHEET about() for 0 to 7, .. spots() for 0 to 3 (no DOTS, SPOTS, RINGS)");
        ArcRings x = Sheets.of("4x31:");
        long h = mixed(1559, 4, 31, 0, 2, 12, 1, 4, 3, 0, 0, 0, 0);
        checks.due("digest()", mixed(h, 0, 0, 0, 0, 1, 0, 0), x.digest());
        x.hunt();
        checks.due("digest() when HUNTED without RINGS", mixed(h, 0, 0, 0, 0, 1, 1, 0), x.digest());
    }

    /** Asks as digest() does; a new object, made alike, goes on when one has had many calls. */
    private static final class Asker {
        final Supplier<ArcRings> maker;
        ArcRings now;
        int calls;
        long h = 1559;

        Asker(Supplier<ArcRings> maker) {
            this.maker = maker;
            now = maker.get();
        }

        ArcRings one() {
            calls++;
            if (calls % 200 == 0) {
                now = maker.get();
            }
            return now;
        }

        long all(String letters) {
            for (int what = 0; what <= 7; what++) {
                h = mixed(h, one().about(what));
            }
            for (int dot = 0; dot < now.count(0); dot++) {
                for (int what = 0; what <= 3; what++) {
                    h = mixed(h, one().told(dot, what));
                }
            }
            for (int what = 0; what <= 3; what++) {
                h = mixed(h, one().spots(what));
            }
            withSpotsAndRings(now.spots(0), now.count(1));
            for (char letter : letters.toCharArray()) {
                h = mixed(h, letter);
            }
            for (int what = 0; what <= 6; what++) {
                h = mixed(h, one().count(what));
            }
            return h;
        }

        private void withSpotsAndRings(int spots, int rings) {
            for (int place = 0; place < spots; place++) {
                for (int what = 0; what <= 6; what++) {
                    h = mixed(h, one().spot(place, what));
                }
            }
            for (int ring = 0; ring < rings; ring++) {
                for (int what = 0; what <= 6; what++) {
                    h = mixed(h, one().ring(ring, what));
                }
            }
        }
    }

    private void digestWraps() {
        checks.sentence("24: 31 times h, and it (as longs, wrapping)");
        String[] texts = {Sheets.WHOLE, TIED, Sheets.SHRINKING, Sheets.ROUND_ABOUT, Sheets.CROWDED,
            "31x31:f5-ob-a4-l8-sk-74-qe-26-rp-or-3g-1a-6k-lr-", "22x24:1721b7ai5h02ba01129347d7fc7e83fn58g0854ld6"};
        for (String text : texts) {
            Supplier<ArcRings> maker = () -> {
                ArcRings x = Sheets.of(text, LOOSE);
                x.hunt();
                x.split();
                Sheets.type(x, "4x ~");
                return x;
            };
            checks.due("digest() of " + text, new Asker(maker).all("4x ~"), maker.get().digest());
        }
    }

    private void digestFirstOfAll() {
        checks.sentence("24: spots() for 0 to 3, of each SPOT in order spot() (nothing was asked since a change)");
        Supplier<ArcRings> maker = () -> Sheets.of(Sheets.WHOLE);
        checks.due("digest() of a SHEET", new Asker(maker).all(""), maker.get().digest());
        ArcRings x = maker.get();
        x.spots(0);
        x.lift(0);
        ArcRings same = Sheets.of(Sheets.WHOLE.substring(0, 6) + Sheets.WHOLE.substring(9));
        checks.due("digest() when a DOT went", same.digest(), x.digest());
        x.dot(16, 12, NONE);
        same.dot(16, 12, NONE);
        same.spots(0);
        checks.due("digest() when a DOT came", same.digest(), x.digest());
        x.bound(1, 4);
        same.bound(1, 4);
        same.spots(0);
        checks.due("digest() behind bound()", same.digest(), x.digest());
        checks.holds("no SPOTS then", x.spots(0) == 0);
    }

    private void digestChangesNothing() {
        checks.sentence("24: digest() tells and changes nothing");
        ArcRings x = Sheets.of(Sheets.SHRINKING, Sheets.SHRINKING_BOUNDS);
        x.hunt();
        long first = x.digest();
        checks.due("digest() again", first, x.digest());
        checks.due("count(5)", 1, x.count(5));
        checks.due("RINGS", 6, x.count(1));
        checks.due("split()", 3, x.split());
        checks.holds("digest() is another one then", first != x.digest());
    }
}
