/** What the document says of the edges of a SHEET's text, and of promises 1 to 6: each sentence by itself. */
public final class EdgeTextsTest {
    private static final int NONE = Sheets.NONE, UNKNOWN = Sheets.UNKNOWN, OUTSIDE = Sheets.OUTSIDE;
    private static final int STATE = Sheets.STATE, FULL = Sheets.FULL;
    private static final int[] FAR_OFF = {Integer.MIN_VALUE, -65536 + 65, -256 + 65, 256 + 65, 65536 + 65, Integer.MAX_VALUE};
    private static final String DIGITS = "0123456789";
    private static final String SIGNS = "0123456789abcdefghijklmnopqrstu";
    /** 14 DOTS on 16 places. */
    private static final String CLOSE = "4x4:00-01-02-03-10-11-12-13-20-21-22-23-30-31-";

    private final Checks checks = new Checks();

    public static void main(String[] args) {
        EdgeTextsTest test = new EdgeTextsTest();
        test.terms();
        test.letters();
        test.faults();
        test.sheets();
        test.inks();
        test.checks.end();
    }

    private void terms() {
        sidesFourToThirtyOne();
        dotsLieOnIt();
        noTwoAtTheSamePlace();
        fourteenAtMost();
        turnOrNone();
        signsOfPlaces();
        noSheetAtFirst();
    }

    private void letters() {
        codesOfLetters();
        fiftyLetters();
        noLetterOnAFullPage();
        blankOfNone();
        blankOfAll();
    }

    private void faults() {
        faultOfNoLetters();
        faultOfASoundPage();
        whatMayFollow();
        faultIsTheFirstOne();
        faultOfAFullPage();
        faultChangesNothing();
    }

    private void sheets() {
        sheetWithoutDots();
        sheetWithAllDots();
        anotherIsGone();
        boundsAsAtFirst();
        pageIsEmptyThen();
        whatIsNoSheet();
        noSheetKeepsTheOld();
    }

    private void inks() {
        inkOfAllSides();
        inkOfAllPlaces();
        inkOfAllTurns();
        inkBehind();
        inkAhead();
        inkOfNoSheet();
    }

    private void sheetDue(String text, int want) {
        checks.due("sheet() of " + text, want, Sheets.paged(text).sheet());
    }

    // ---- terms

    private void sidesFourToThirtyOne() {
        checks.sentence("terms: A SHEET is W wide and H high (4 to 31)");
        for (int side = 0; side <= 110; side++) {
            boolean sound = side >= 4 && side <= 31;
            sheetDue(side + "x4:", sound ? 0 : STATE);
            sheetDue("31x" + side + ":", sound ? 0 : STATE);
            if (sound) {
                checks.due("W " + side, side, Sheets.of(side + "x5:").about(0));
                checks.due("H " + side, side, Sheets.of("5x" + side + ":").about(1));
            }
        }
        sheetDue("04x4:", STATE);
        sheetDue("4x04:", STATE);
        sheetDue("-4x4:", STATE);
        sheetDue("+4x4:", STATE);
    }

    private void dotsLieOnIt() {
        checks.sentence("terms: DOTS lie on it, at x (0 to W less 1), y (0 to H less 1)");
        for (int side = 4; side <= 31; side++) {
            sheetDue(side + "x4:" + SIGNS.charAt(side - 1) + "0-", 1);
            sheetDue("4x" + side + ":0" + SIGNS.charAt(side - 1) + "-", 1);
            char beyond = (SIGNS + "v").charAt(side);
            sheetDue(side + "x31:" + beyond + "0-", STATE);
            sheetDue("31x" + side + ":0" + beyond + "-", STATE);
        }
        sheetDue("4x4:00-", 1);
    }

    private void noTwoAtTheSamePlace() {
        checks.sentence("terms: no two at the same place");
        sheetDue("9x9:12-12-", STATE);
        sheetDue("9x9:121122", STATE);
        sheetDue("9x9:12-34-56-12-", STATE);
        sheetDue("9x9:12-21-11-22-", 4);
    }

    private void fourteenAtMost() {
        checks.sentence("terms: numbered from 0 as they came (14 at most)");
        sheetDue(Sheets.CROWDED, 14);
        sheetDue(CLOSE, 14);
        sheetDue(CLOSE + "32-", STATE);
        ArcRings x = Sheets.of(CLOSE);
        for (int dot = 0; dot < 14; dot++) {
            checks.due("x of DOT " + dot, dot / 4, x.told(dot, 0));
            checks.due("y of DOT " + dot, dot % 4, x.told(dot, 1));
        }
        checks.due("a DOT 14", UNKNOWN, x.told(14, 0));
    }

    private void turnOrNone() {
        checks.sentence("terms: each has a TURN, 0 to 7, or none; the digit of its TURN, or \"-\" for none");
        for (int code = 32; code <= 126; code++) {
            ArcRings x = Sheets.paged("9x9:45");
            x.letter(code);
            boolean sound = code == '-' || code >= '0' && code <= '7';
            checks.due("sheet() with a TURN's letter " + code, sound ? 1 : STATE, x.sheet());
            if (sound) {
                checks.due("TURN by the letter " + code, code == '-' ? NONE : code - '0', x.told(0, 2));
            }
        }
    }

    private void signsOfPlaces() {
        checks.sentence("terms: x and y, each as \"0\" to \"9\", \"a\" (10) to \"u\" (30)");
        for (int code = 32; code <= 126; code++) {
            int value = SIGNS.indexOf(code);
            ArcRings across = Sheets.paged("31x31:");
            across.letter(code);
            Sheets.type(across, "3-");
            ArcRings down = Sheets.paged("31x31:3");
            down.letter(code);
            Sheets.type(down, "-");
            checks.due("sheet() with an x by " + code, value < 0 ? STATE : 1, across.sheet());
            checks.due("sheet() with a y by " + code, value < 0 ? STATE : 1, down.sheet());
            if (value >= 0) {
                checks.due("x by " + code, value, across.told(0, 0));
                checks.due("y by " + code, value, down.told(0, 1));
            }
        }
    }

    private void noSheetAtFirst() {
        checks.sentence("terms and 1: At first there is no SHEET");
        ArcRings x = new ArcRings();
        checks.due("about(0)", STATE, x.about(0));
        checks.same("what is counted", "0 0 0 0 0 0 0", Sheets.counts(x));
        checks.due("blank()", 0, x.blank());
        Sheets.type(x, "4x4:");
        checks.due("about(0) with a PAGE that is not read", STATE, x.about(0));
        checks.due("fault()", 4, x.fault());
        checks.due("about(0) after fault()", STATE, x.about(0));
    }

    // ---- 2 and 3

    private void codesOfLetters() {
        checks.sentence("2: OUTSIDE: code (32 to 126)");
        for (int code = -200; code <= 400; code++) {
            boolean sound = code >= 32 && code <= 126;
            ArcRings x = new ArcRings();
            checks.due("letter(" + code + ")", sound ? 1 : OUTSIDE, x.letter(code));
            checks.due("letters after " + code, sound ? 1 : 0, x.count(3));
        }
        for (int code : FAR_OFF) {
            ArcRings x = Sheets.paged("4");
            checks.due("letter(" + code + ")", OUTSIDE, x.letter(code));
            checks.due("letters after " + code, 1, x.blank());
        }
    }

    private void fiftyLetters() {
        checks.sentence("2: FULL: above 50");
        ArcRings x = new ArcRings();
        for (int many = 1; many <= 50; many++) {
            checks.due("letter " + many, many, x.letter('a'));
        }
        for (int code = 32; code <= 126; code++) {
            checks.due("letter 51, " + code, FULL, x.letter(code));
        }
        checks.due("letters after that", 50, x.count(3));
        x.blank();
        checks.due("the first letter again", 1, x.letter('a'));
    }

    private void noLetterOnAFullPage() {
        checks.sentence("2: of several refusals the first as told: OUTSIDE, then FULL");
        ArcRings x = new ArcRings();
        for (int many = 1; many <= 50; many++) {
            x.letter('a');
        }
        checks.due("letter(31) on a full PAGE", OUTSIDE, x.letter(31));
        checks.due("letter(127) on a full PAGE", OUTSIDE, x.letter(127));
        for (int code : FAR_OFF) {
            checks.due("letter(" + code + ") on a full PAGE", OUTSIDE, x.letter(code));
        }
    }

    private void blankOfNone() {
        checks.sentence("3: THE PAGE is empty: how many letters it had (it is empty)");
        ArcRings x = new ArcRings();
        checks.due("blank() of a new one", 0, x.blank());
        x.letter('4');
        checks.due("blank() of one letter", 1, x.blank());
        checks.due("blank() again", 0, x.blank());
        checks.due("count(3)", 0, x.count(3));
        checks.due("fault()", 0, x.fault());
        checks.due("sheet()", STATE, x.sheet());
    }

    private void blankOfAll() {
        checks.sentence("3: THE PAGE is empty: how many letters it had (it is full)");
        ArcRings x = Sheets.of("9x9:12-");
        for (int many = 1; many <= 60; many++) {
            x.letter('a');
        }
        checks.due("blank() of a full PAGE", 50, x.blank());
        checks.due("count(3)", 0, x.count(3));
        checks.same("the SHEET stays", "9x9:12-", Sheets.textOf(x));
        Sheets.type(x, "5x5:");
        checks.due("fault(): nothing of the old PAGE is left", 4, x.fault());
        checks.due("sheet()", 0, x.sheet());
    }

    // ---- 4

    private void faultDue(String text, int want) {
        checks.due("fault() of \"" + text + "\"", want, Sheets.paged(text).fault());
    }

    private void faultOfNoLetters() {
        checks.sentence("4: how many letters it has, if there is none (THE PAGE is empty)");
        faultDue("", 0);
        ArcRings x = Sheets.of("9x9:12-");
        checks.due("fault() behind sheet()", 0, x.fault());
    }

    private void faultOfASoundPage() {
        checks.sentence("4: how many letters it has, if there is none");
        for (String whole : new String[] {Sheets.WHOLE, Sheets.CROWDED, CLOSE, "4x4:", "10x31:9u70u0"}) {
            for (int many = 0; many <= whole.length(); many++) {
                faultDue(whole.substring(0, many), many);
            }
        }
    }

    private void whatMayFollow() {
        checks.sentence("4: the first letter of THE PAGE that no SHEET has there, behind those ahead of it");
        String[] startsAndLetters = {
            "", "123456789", "1", DIGITS, "2", DIGITS, "3", "01", "4", "x", "9", "x", "10", "x", "29", "x", "31", "x",
            "4x", "123456789", "4x1", DIGITS, "4x2", DIGITS, "4x3", "01", "4x4", ":", "4x9", ":", "4x10", ":", "4x31", ":",
            "4x9:", "0123", "9x4:", "012345678", "10x4:", DIGITS, "11x4:", DIGITS + "a", "30x4:", SIGNS.substring(0, 30),
            "31x4:", SIGNS, "9x4:0", "0123", "4x9:0", "012345678", "4x10:0", DIGITS, "4x11:0", DIGITS + "a",
            "4x30:0", SIGNS.substring(0, 30), "4x31:0", SIGNS, "4x4:00", "-01234567", "31x31:uu", "-01234567",
            "4x4:00-", "0123", "4x4:00-0", "123", "4x4:00-1", "0123", "4x4:00-01-02-0", "3", "4x4:00-01-02-03-", "123",
            "4x4:00-10-20-30-", "0123", "4x4:00-10-20-30-0", "123", "4x4:30-31-32-33-00-01-02-03-", "12",
            "9x4:80-81-82-33-83-", "01234567", CLOSE, "", CLOSE.substring(0, 43), "3", CLOSE.substring(0, 44), "123",
            Sheets.CROWDED, "",
        };
        for (int i = 0; i < startsAndLetters.length; i += 2) {
            String start = startsAndLetters[i];
            for (int code = 32; code <= 126; code++) {
                boolean may = startsAndLetters[i + 1].indexOf(code) >= 0;
                faultDue(start + (char) code, start.length() + (may ? 1 : 0));
            }
        }
    }

    private void faultIsTheFirstOne() {
        checks.sentence("4: the place (from 0) of the first letter");
        faultDue("?", 0);
        faultDue("???", 0);
        faultDue("?x4:", 0);
        faultDue("4?4:", 1);
        faultDue("4x?:", 2);
        faultDue("4x4?", 3);
        faultDue("4x4:?0-", 4);
        faultDue("4x4:0?-", 5);
        faultDue("4x4:00?", 6);
        faultDue("4x4:00-???", 7);
        faultDue("4x4:00-4x4:", 7);
        faultDue("4x4:00-00-00-", 8);
    }

    private void faultOfAFullPage() {
        checks.sentence("4: the first letter that no SHEET has there (THE PAGE is full)");
        faultDue(Sheets.CROWDED + "00", 48);
        faultDue("?".repeat(50), 0);
        faultDue("4" + "?".repeat(49), 1);
        faultDue(CLOSE + "32-3", 46);
    }

    private void faultChangesNothing() {
        checks.sentence("4: fault() tells a place and changes nothing");
        ArcRings x = Sheets.of("9x9:12-");
        Sheets.type(x, "31x31:00-11-??");
        long before = x.digest();
        checks.due("fault()", 12, x.fault());
        checks.due("fault() again", 12, x.fault());
        checks.due("digest()", before, x.digest());
        checks.same("the SHEET", "9x9:12-", Sheets.textOf(x));
    }

    // ---- 5

    private void sheetWithoutDots() {
        checks.sentence("5: how many DOTS (none)");
        ArcRings x = Sheets.paged("4x31:");
        checks.due("sheet()", 0, x.sheet());
        checks.same("about()", "4 31 0 2 12 1 4 3", Sheets.abouts(x));
        checks.due("count(0)", 0, x.count(0));
    }

    private void sheetWithAllDots() {
        checks.sentence("5: how many DOTS (as many as may be)");
        ArcRings x = Sheets.paged(Sheets.CROWDED);
        checks.due("sheet()", 14, x.sheet());
        checks.same("about()", "31 31 14 2 12 1 4 3", Sheets.abouts(x));
        checks.due("one more", FULL, x.dot(30, 30, 0));
        checks.same("its text", Sheets.CROWDED, Sheets.textOf(x));
    }

    private void anotherIsGone() {
        checks.sentence("5: another one is gone");
        ArcRings x = Sheets.of(Sheets.WHOLE);
        x.hunt();
        Sheets.type(x, "5x4:");
        checks.due("sheet() of a smaller one without DOTS", 0, x.sheet());
        checks.same("its text", "5x4:", Sheets.textOf(x));
        checks.same("what is counted", "0 0 0 0 2 1 0", Sheets.counts(x));
        checks.due("told(0, 0)", UNKNOWN, x.told(0, 0));
        checks.due("spots(1)", 0, x.spots(1));
        checks.due("spot(0, 0)", UNKNOWN, x.spot(0, 0));
        checks.due("votes(10, 10, 5)", 0, x.votes(10, 10, 5));
        checks.due("split()", STATE, x.split());
        checks.due("ring(0, 0)", UNKNOWN, x.ring(0, 0));
        checks.due("dot(10, 3, 0)", OUTSIDE, x.dot(10, 3, 0));
        Sheets.type(x, Sheets.WHOLE);
        checks.due("sheet() of the old one", 8, x.sheet());
        checks.due("split() of the old one: what was HUNTED stays gone", STATE, x.split());
    }

    private void boundsAsAtFirst() {
        checks.sentence("5: all bounds are as at first");
        ArcRings x = Sheets.of("9x9:", 22, 22, 0, 14, 8);
        checks.same("about() ahead of it", "9 9 0 22 22 0 14 8", Sheets.abouts(x));
        Sheets.type(x, "9x9:");
        x.sheet();
        checks.same("about() behind it", "9 9 0 2 12 1 4 3", Sheets.abouts(x));
        ArcRings y = Sheets.of("9x9:", 1, 1, 4, 2, 1);
        Sheets.type(y, "9x9:");
        y.sheet();
        checks.same("about() behind the least ones", "9 9 0 2 12 1 4 3", Sheets.abouts(y));
    }

    private void pageIsEmptyThen() {
        checks.sentence("5: THE PAGE is empty then");
        ArcRings x = Sheets.paged("9x9:12-");
        x.sheet();
        checks.due("count(3)", 0, x.count(3));
        checks.due("sheet() again", STATE, x.sheet());
        checks.due("blank()", 0, x.blank());
        checks.due("the next letter", 1, x.letter('4'));
    }

    private void whatIsNoSheet() {
        checks.sentence("5: STATE: it is none");
        sheetDue("", STATE);
        for (String whole : new String[] {"31x31:", "4x4:00-u"}) {
            for (int many = 0; many < whole.length(); many++) {
                boolean sound = many == 4 && whole.startsWith("4") || many == 7;
                sheetDue(whole.substring(0, many), sound ? many / 7 : STATE);
            }
        }
        for (String none : new String[] {" 4x4:", "4x4: ", "4x4:\"", "4X4:", "4x4;", "4x4:00-4", "4x4:00-0", "4x4:00-01",
            "4x4:00-00-", "4x4:00--", "4x4:40-", "4x4:04-", "4x4:008", "3x4:", "4x3:", "32x4:", "4x32:", "100x4:"}) {
            sheetDue(none, STATE);
        }
    }

    private void noSheetKeepsTheOld() {
        checks.sentence("5: STATE changes nothing: the SHEET, its bounds, RINGS and THE PAGE stay");
        for (String none : new String[] {"", "5x5", "5x5:0", "5x5:00", "5x5:00-00-", "5x5:00-?", Sheets.CROWDED + "1"}) {
            ArcRings x = Sheets.of(Sheets.WHOLE, 3, 9, 2, 5, 4);
            x.hunt();
            Sheets.type(x, none);
            long before = x.digest();
            checks.due("sheet() of \"" + none + "\"", STATE, x.sheet());
            checks.due("digest() behind \"" + none + "\"", before, x.digest());
            checks.due("split() behind \"" + none + "\"", 1, x.split());
            checks.due("blank() behind \"" + none + "\"", none.length(), x.blank());
        }
    }

    // ---- 6

    private void textDue(String text) {
        ArcRings x = Sheets.of(text);
        for (int place = 0; place < text.length(); place++) {
            checks.due("ink(" + place + ") of " + text, text.charAt(place), x.ink(place));
        }
        checks.due("ink behind " + text, NONE, x.ink(text.length()));
    }

    private void inkOfAllSides() {
        checks.sentence("6: the code of a letter of the SHEET as its text (sides)");
        for (int side = 4; side <= 31; side++) {
            textDue(side + "x4:");
            textDue("4x" + side + ":");
            textDue(side + "x" + (35 - side) + ":");
        }
    }

    private void inkOfAllPlaces() {
        checks.sentence("6: the code of a letter of the SHEET as its text (places)");
        for (int at = 0; at <= 30; at++) {
            textDue("31x31:" + Sheets.dot(at, 30 - at, NONE) + Sheets.dot(at, at == 30 ? 1 : 0, 0));
        }
        textDue(Sheets.CROWDED);
        textDue(CLOSE);
    }

    private void inkOfAllTurns() {
        checks.sentence("6: the code of a letter of the SHEET as its text (TURNS)");
        for (int turn = NONE; turn <= 7; turn++) {
            textDue("9x9:" + Sheets.dot(8, 8, turn) + Sheets.dot(0, 0, 7 - Math.max(0, turn)));
        }
    }

    private void inkBehind() {
        checks.sentence("6: NONE: there are not so many");
        for (String text : new String[] {"4x4:", "31x31:", "10x4:33-", Sheets.CROWDED}) {
            ArcRings x = Sheets.of(text);
            checks.holds("the last letter of " + text, x.ink(text.length() - 1) >= 32);
            int[] behind = {text.length(), text.length() + 1, text.length() + 2, 48, 49, 50, 51, 255, 65536, Integer.MAX_VALUE};
            for (int place : behind) {
                checks.due("ink(" + place + ") of " + text, NONE, x.ink(Math.max(place, text.length())));
            }
        }
        ArcRings x = Sheets.of("9x9:12-34-");
        x.lift(0);
        checks.due("ink(7) when a DOT went", NONE, x.ink(7));
        x.lift(0);
        checks.due("ink(4) when all went", NONE, x.ink(4));
    }

    private void inkAhead() {
        checks.sentence("6: UNKNOWN: place (0 at least)");
        ArcRings x = Sheets.of("9x9:12-34-");
        checks.due("ink(0)", '9', x.ink(0));
        for (int place : new int[] {-1, -2, -10, -65536, Integer.MIN_VALUE}) {
            checks.due("ink(" + place + ")", UNKNOWN, x.ink(place));
        }
    }

    private void inkOfNoSheet() {
        checks.sentence("6: STATE: no SHEET; then UNKNOWN");
        ArcRings x = Sheets.paged("9x9:");
        for (int place : new int[] {0, 1, 100, Integer.MAX_VALUE, -1, Integer.MIN_VALUE}) {
            checks.due("ink(" + place + ")", STATE, x.ink(place));
        }
    }
}
