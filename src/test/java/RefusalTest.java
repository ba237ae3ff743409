import java.util.ArrayList;
import java.util.List;
import java.util.function.Supplier;
import java.util.function.ToLongFunction;

/** Refusals, of several the first as told by each call; they change nothing: an object that was refused is as its twin. */
public final class RefusalTest {
    private static final int UNKNOWN = Sheets.UNKNOWN, OUTSIDE = Sheets.OUTSIDE, STATE = Sheets.STATE, FULL = Sheets.FULL;
    private static final int LEAST = Integer.MIN_VALUE, MOST = Integer.MAX_VALUE;

    /** A call that is refused. */
    private static final class Row {
        final String call;
        final int due;
        final ToLongFunction<ArcRings> deed;

        Row(String call, int due, ToLongFunction<ArcRings> deed) {
            this.call = call;
            this.due = due;
            this.deed = deed;
        }
    }

    private final Checks checks = new Checks();
    private List<Row> rows = new ArrayList<>();

    public static void main(String[] args) {
        RefusalTest test = new RefusalTest();
        test.withoutASheet();
        test.ofAFullSheet();
        test.unhunted();
        test.withoutRings();
        test.ofAFullPage();
        test.checks.end();
    }

    private void refused(int due, String call, ToLongFunction<ArcRings> deed) {
        rows.add(new Row(call, due, deed));
    }

    /** Each of the rows by itself, then all of them one behind the other. */
    private void twinsDue(String state, Supplier<ArcRings> maker) {
        String want = seen(maker.get());
        for (Row row : rows) {
            checks.sentence("refusals: " + state + ": " + row.call + " changes nothing");
            ArcRings x = maker.get();
            checks.due(row.call, row.due, row.deed.applyAsLong(x));
            checks.same("what is seen behind " + row.call, want, seen(x));
        }
        checks.sentence("refusals: " + state + ": all of them change nothing");
        ArcRings x = maker.get();
        for (Row row : rows) {
            checks.due(row.call, row.due, row.deed.applyAsLong(x));
        }
        checks.same("what is seen behind all", want, seen(x));
        rows = new ArrayList<>();
    }

    /** What can be seen of an object, first without a change, then by changes that all of it has a hand in. */
    private static String seen(ArcRings x) {
        StringBuilder all = new StringBuilder();
        all.append(Sheets.counts(x)).append('|').append(Sheets.abouts(x)).append('|').append(Sheets.textOf(x));
        all.append('|').append(Sheets.rings(x)).append('|').append(x.digest()).append('|').append(x.fault());
        all.append('|').append(x.split()).append('|').append(Sheets.rings(x)).append('|').append(x.digest());
        all.append('|').append(x.hunt()).append('|').append(x.digest()).append('|').append(x.letter('0'));
        all.append('|').append(x.fault()).append('|').append(x.dot(3, 3, 3)).append('|').append(x.digest());
        all.append('|').append(x.lift(0)).append('|').append(x.hunt()).append('|').append(x.digest());
        all.append('|').append(x.blank()).append('|').append(x.letter('4')).append('|').append(x.digest());
        return all.toString();
    }

    private void withoutASheet() {
        refused(OUTSIDE, "letter(31)", x -> x.letter(31));
        refused(OUTSIDE, "letter(127)", x -> x.letter(127));
        refused(STATE, "sheet() of letters that are none", x -> x.sheet());
        refused(STATE, "ink(0)", x -> x.ink(0));
        refused(STATE, "ink(-1)", x -> x.ink(-1));
        refused(STATE, "dot(0, 0, 0)", x -> x.dot(0, 0, 0));
        refused(STATE, "dot(-1, 99, 8)", x -> x.dot(-1, 99, 8));
        refused(UNKNOWN, "lift(0)", x -> x.lift(0));
        refused(STATE, "arc(0, 0, 1, 255)", x -> x.arc(0, 0, 1, 255));
        refused(STATE, "arc(63, -32, 0, 256)", x -> x.arc(63, -32, 0, 256));
        refused(STATE, "strew(1, 0)", x -> x.strew(1, 0));
        refused(STATE, "strew(0, -1)", x -> x.strew(0, -1));
        refused(UNKNOWN, "told(0, 0)", x -> x.told(0, 0));
        refused(UNKNOWN, "told(0, 4)", x -> x.told(0, 4));
        refused(STATE, "about(0)", x -> x.about(0));
        refused(OUTSIDE, "about(8)", x -> x.about(8));
        refused(OUTSIDE, "about(-1)", x -> x.about(-1));
        refused(STATE, "bound(0, 1)", x -> x.bound(0, 1));
        refused(STATE, "bound(5, 99)", x -> x.bound(5, 99));
        refused(UNKNOWN, "circle(0, 1, 2, 0)", x -> x.circle(0, 1, 2, 0));
        refused(UNKNOWN, "circle(0, 1, 2, 5)", x -> x.circle(0, 1, 2, 5));
        refused(STATE, "votes(0, 0, 2)", x -> x.votes(0, 0, 2));
        refused(STATE, "votes(-1, -1, -1)", x -> x.votes(-1, -1, -1));
        refused(UNKNOWN, "spot(0, 0)", x -> x.spot(0, 0));
        refused(UNKNOWN, "spot(0, 7)", x -> x.spot(0, 7));
        refused(STATE, "spots(0)", x -> x.spots(0));
        refused(OUTSIDE, "spots(4)", x -> x.spots(4));
        refused(STATE, "hunt()", x -> x.hunt());
        refused(STATE, "split()", x -> x.split());
        refused(UNKNOWN, "ring(0, 0)", x -> x.ring(0, 0));
        refused(UNKNOWN, "ring(0, 7)", x -> x.ring(0, 7));
        refused(UNKNOWN, "as(0, 0)", x -> x.as(0, 0));
        refused(UNKNOWN, "as(0, 2)", x -> x.as(0, 2));
        refused(UNKNOWN, "cross(0, 1)", x -> x.cross(0, 1));
        refused(OUTSIDE, "count(7)", x -> x.count(7));
        refused(OUTSIDE, "count(-1)", x -> x.count(-1));
        twinsDue("no SHEET", () -> Sheets.paged("5x5:1"));
    }

    /** 14 DOTS, other bounds, RINGS of which some were given up, letters that are no SHEET. */
    private static ArcRings rich() {
        ArcRings x = Sheets.of(Sheets.SHRINKING, 1, 20, 1, 2, 1);
        x.hunt();
        x.split();
        Sheets.type(x, "9x9:00-1");
        return x;
    }

    private void ofAFullSheet() {
        texts();
        dots();
        bounds();
        circles();
        rings();
        twinsDue("a full SHEET", RefusalTest::rich);
    }

    private void texts() {
        refused(OUTSIDE, "letter(31)", x -> x.letter(31));
        refused(OUTSIDE, "letter(127)", x -> x.letter(127));
        refused(OUTSIDE, "letter(least)", x -> x.letter(LEAST));
        refused(STATE, "sheet() of a start", x -> x.sheet());
        refused(UNKNOWN, "ink(-1)", x -> x.ink(-1));
        refused(UNKNOWN, "ink(least)", x -> x.ink(LEAST));
    }

    private void dots() {
        refused(OUTSIDE, "dot(15, 0, 0)", x -> x.dot(15, 0, 0));
        refused(OUTSIDE, "dot(0, 21, 0)", x -> x.dot(0, 21, 0));
        refused(OUTSIDE, "dot(-1, 0, 0)", x -> x.dot(-1, 0, 0));
        refused(OUTSIDE, "dot(0, -1, 0)", x -> x.dot(0, -1, 0));
        refused(OUTSIDE, "dot(0, 0, 8)", x -> x.dot(0, 0, 8));
        refused(OUTSIDE, "dot(0, 0, -2)", x -> x.dot(0, 0, -2));
        refused(OUTSIDE, "dot(8, 16, 8) where one lies", x -> x.dot(8, 16, 8));
        refused(STATE, "dot(8, 16, 0) where one lies", x -> x.dot(8, 16, 0));
        refused(FULL, "dot(0, 0, 0)", x -> x.dot(0, 0, 0));
        refused(UNKNOWN, "lift(14)", x -> x.lift(14));
        refused(UNKNOWN, "lift(-1)", x -> x.lift(-1));
        refused(UNKNOWN, "lift(most)", x -> x.lift(MOST));
        refused(OUTSIDE, "arc(-32, 0, 1, 255)", x -> x.arc(-32, 0, 1, 255));
        refused(OUTSIDE, "arc(63, 0, 1, 255)", x -> x.arc(63, 0, 1, 255));
        refused(OUTSIDE, "arc(0, -32, 1, 255)", x -> x.arc(0, -32, 1, 255));
        refused(OUTSIDE, "arc(0, 63, 1, 255)", x -> x.arc(0, 63, 1, 255));
        refused(OUTSIDE, "arc(0, 0, 0, 255)", x -> x.arc(0, 0, 0, 255));
        refused(OUTSIDE, "arc(0, 0, 32, 255)", x -> x.arc(0, 0, 32, 255));
        refused(OUTSIDE, "arc(0, 0, 1, -1)", x -> x.arc(0, 0, 1, -1));
        refused(OUTSIDE, "arc(0, 0, 1, 256)", x -> x.arc(0, 0, 1, 256));
        refused(OUTSIDE, "strew(0, 0)", x -> x.strew(0, 0));
        refused(OUTSIDE, "strew(15, 0)", x -> x.strew(15, 0));
        refused(OUTSIDE, "strew(1, -1)", x -> x.strew(1, -1));
        refused(UNKNOWN, "told(14, 0)", x -> x.told(14, 0));
        refused(UNKNOWN, "told(-1, 4)", x -> x.told(-1, 4));
        refused(OUTSIDE, "told(0, 4)", x -> x.told(0, 4));
        refused(OUTSIDE, "told(13, -1)", x -> x.told(13, -1));
        refused(OUTSIDE, "about(8)", x -> x.about(8));
        refused(OUTSIDE, "about(-1)", x -> x.about(-1));
    }

    private void bounds() {
        int[][] wrong = {{0, 0}, {0, 21}, {1, 0}, {1, 23}, {2, -1}, {2, 5}, {3, 1}, {3, 15}, {4, 0}, {4, 9}, {-1, 3}, {5, 3},
            {0, LEAST}, {1, MOST}, {LEAST, 1}, {MOST, 1}};
        for (int[] w : wrong) {
            refused(OUTSIDE, "bound(" + w[0] + ", " + w[1] + ")", x -> x.bound(w[0], w[1]));
        }
    }

    private void circles() {
        int[][] unknown = {{0, 0, 1}, {0, 1, 0}, {1, 0, 0}, {14, 0, 1}, {0, 14, 1}, {0, 1, 14}, {-1, 0, 1}, {0, -1, 1},
            {0, 1, -1}};
        for (int[] u : unknown) {
            refused(UNKNOWN, "circle(" + Sheets.words(u) + ", 5)", x -> x.circle(u[0], u[1], u[2], 5));
        }
        refused(OUTSIDE, "circle(0, 1, 2, 5)", x -> x.circle(0, 1, 2, 5));
        refused(OUTSIDE, "circle(0, 1, 2, -1)", x -> x.circle(0, 1, 2, -1));
        refused(UNKNOWN, "spot(-1, 0)", x -> x.spot(-1, 0));
        refused(UNKNOWN, "spot(364, 7)", x -> x.spot(364, 7));
        refused(UNKNOWN, "spot(most, 0)", x -> x.spot(MOST, 0));
        refused(OUTSIDE, "spot(0, 7)", x -> x.spot(0, 7));
        refused(OUTSIDE, "spot(0, -1)", x -> x.spot(0, -1));
        refused(OUTSIDE, "spots(4)", x -> x.spots(4));
        refused(OUTSIDE, "spots(-1)", x -> x.spots(-1));
    }

    private void rings() {
        refused(UNKNOWN, "ring(3, 0)", x -> x.ring(3, 0));
        refused(UNKNOWN, "ring(-1, 7)", x -> x.ring(-1, 7));
        refused(OUTSIDE, "ring(0, 7)", x -> x.ring(0, 7));
        refused(OUTSIDE, "ring(2, -1)", x -> x.ring(2, -1));
        refused(UNKNOWN, "as(3, 2)", x -> x.as(3, 2));
        refused(UNKNOWN, "as(-1, 0)", x -> x.as(-1, 0));
        refused(OUTSIDE, "as(0, 2)", x -> x.as(0, 2));
        refused(OUTSIDE, "as(2, -1)", x -> x.as(2, -1));
        refused(UNKNOWN, "cross(0, 0)", x -> x.cross(0, 0));
        refused(UNKNOWN, "cross(0, 3)", x -> x.cross(0, 3));
        refused(UNKNOWN, "cross(3, 0)", x -> x.cross(3, 0));
        refused(UNKNOWN, "cross(-1, 0)", x -> x.cross(-1, 0));
        refused(OUTSIDE, "count(7)", x -> x.count(7));
        refused(OUTSIDE, "count(-1)", x -> x.count(-1));
    }

    private void unhunted() {
        refused(STATE, "split()", x -> x.split());
        refused(UNKNOWN, "ring(0, 0)", x -> x.ring(0, 0));
        refused(UNKNOWN, "ring(0, 7)", x -> x.ring(0, 7));
        refused(UNKNOWN, "as(0, 0)", x -> x.as(0, 0));
        refused(UNKNOWN, "as(0, 2)", x -> x.as(0, 2));
        refused(UNKNOWN, "cross(0, 1)", x -> x.cross(0, 1));
        refused(STATE, "circle(8, 9, 10, 0) on a line", x -> x.circle(8, 9, 10, 0));
        refused(OUTSIDE, "circle(8, 9, 10, 5) on a line", x -> x.circle(8, 9, 10, 5));
        refused(STATE, "sheet() of no letters", x -> x.sheet());
        twinsDue("nothing is HUNTED", () -> Sheets.of(Sheets.WHOLE + "u0-u1-u2-", 3, 9, 0, 5, 8));
    }

    private void withoutRings() {
        refused(UNKNOWN, "ring(0, 0)", x -> x.ring(0, 0));
        refused(UNKNOWN, "as(0, 0)", x -> x.as(0, 0));
        refused(UNKNOWN, "cross(0, 1)", x -> x.cross(0, 1));
        refused(OUTSIDE, "bound(3, 15)", x -> x.bound(3, 15));
        refused(OUTSIDE, "dot(9, 0, 0)", x -> x.dot(9, 0, 0));
        refused(UNKNOWN, "lift(0)", x -> x.lift(0));
        refused(UNKNOWN, "told(0, 0)", x -> x.told(0, 0));
        refused(UNKNOWN, "spot(0, 0)", x -> x.spot(0, 0));
        refused(STATE, "sheet() of what has a wrong letter", x -> x.sheet());
        twinsDue("HUNTED, without RINGS", RefusalTest::empty);
    }

    private static ArcRings empty() {
        ArcRings x = Sheets.of("9x9:");
        x.hunt();
        Sheets.type(x, "4x4:4");
        return x;
    }

    private void ofAFullPage() {
        refused(FULL, "letter(32)", x -> x.letter(32));
        refused(FULL, "letter(126)", x -> x.letter(126));
        refused(OUTSIDE, "letter(31)", x -> x.letter(31));
        refused(OUTSIDE, "letter(127)", x -> x.letter(127));
        refused(STATE, "sheet() of a full PAGE", x -> x.sheet());
        twinsDue("a full PAGE", RefusalTest::written);
    }

    private static ArcRings written() {
        ArcRings x = Sheets.of(Sheets.WHOLE);
        x.hunt();
        Sheets.type(x, Sheets.CROWDED + "00");
        return x;
    }
}
