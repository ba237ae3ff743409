import java.util.Map;
import java.util.Random;
import java.util.TreeMap;

/** Runs of drawn calls (the same ones each time), each answer held against the Model's. */
public final class ModelTest {
    private static final int RUNS = 500;
    /** An object has 512 calls, and one deed may take some hundred. */
    private static final int CALLS = 400;
    private static final int[] ODD_NUMBERS = {-1, -2, 14, 15, 22, 23, 31, 62, 63, -31, -32, 255, 256,
        Integer.MIN_VALUE, Integer.MAX_VALUE, -1000000, 1000000};

    private final Checks checks = new Checks();
    private final Map<String, Integer> seen = new TreeMap<>();
    private Random random;
    private ArcRings real;
    private Model model;
    private String trail;

    public static void main(String[] args) {
        ModelTest test = new ModelTest();
        for (int run = 0; run < RUNS && test.checks.wrong() == 0; run++) {
            test.run(run);
        }
        test.coverage();
        test.checks.end();
    }

    private void run(int number) {
        random = new Random(9000 + number);
        real = new ArcRings();
        model = new Model();
        trail = "run " + number + ", call ";
        int calls = 0;
        boolean sparse = number % 2 == 0;
        while (calls < CALLS && checks.wrong() == 0) {
            calls += act(calls, sparse);
        }
    }

    /** One deed of some calls: how many there were at most. */
    private int act(int at, boolean sparse) {
        int pick = random.nextInt(100);
        if (pick < 1 || model.about(0) < 0 && pick < 60) return page(at);
        if (pick < 14) return dots(at, sparse);
        if (pick < 19) return due(at, "lift", any(15));
        if (pick < 20) return due(at, "bound", any(6), any(24));
        if (pick < 31) return likelyBound(at);
        if (pick < 46) return due(at, "circle", aDot(), aDot(), aDot(), any(5));
        if (pick < 52) return asVoted(at);
        if (pick < 60) return due(at, "spot", any(random.nextBoolean() ? 8 : 200), any(7)) + due(at, "spot", 0, any(8));
        if (pick < 64) return due(at, "spots", any(4));
        if (pick < 70) return due(at, "hunt") + due(at, "count", 1) + (random.nextBoolean() ? due(at, "split") : 0);
        if (pick < 72) return due(at, "split");
        if (pick < 82) return due(at, "ring", aRing(), any(8)) + due(at, "as", aRing(), any(3)) + due(at, "cross", aRing(), aRing());
        if (pick < 86) return due(at, "told", aDot(), any(5));
        if (pick < 88) return due(at, "about", any(8));
        if (pick < 90) return due(at, "ink", any(50));
        if (pick < 93) return due(at, "count", any(7));
        if (pick < 94) return due(at, "letter", 30 + random.nextInt(100)) + due(at, "fault");
        if (pick < 95) return due(at, "blank") + due(at, "sheet");
        return due(at, "digest");
    }

    private int page(int at) {
        due(at, "blank");
        StringBuilder text = new StringBuilder();
        text.append(side()).append('x').append(side()).append(':');
        int many = random.nextInt(16);
        boolean turned = random.nextInt(4) == 0;
        for (int i = 0; i < many; i++) {
            text.append(sign()).append(sign()).append(turned ? "01234567-".charAt(random.nextInt(9)) : '-');
        }
        if (random.nextInt(3) == 0) {
            int place = random.nextInt(text.length());
            text.setCharAt(place, (char) (32 + random.nextInt(95)));
        }
        if (random.nextInt(4) == 0) text.setLength(random.nextInt(text.length() + 1));
        int calls = 5;
        for (int i = 0; i < text.length(); i++) {
            due(at, "letter", text.charAt(i));
            calls++;
        }
        due(at, "fault");
        // what is wrong behind a sound start is left away, so that most pages come to a SHEET
        int sound = model.fault();
        if (random.nextInt(4) > 0 && sound < text.length()) {
            int whole = text.indexOf(":") < 0 ? 0 : sound - (sound - text.indexOf(":") - 1) % 3;
            due(at, "blank");
            for (int i = 0; i < whole; i++) {
                due(at, "letter", text.charAt(i));
                calls++;
            }
        }
        due(at, "sheet");
        return calls;
    }

    private String side() {
        int kind = random.nextInt(12);
        if (kind == 0) return String.valueOf(random.nextInt(40));
        if (kind < 3) return String.valueOf(4 + random.nextInt(3));
        return String.valueOf(4 + random.nextInt(28));
    }

    private char sign() {
        int[] likely = {5, 10, 10, 10, 16, 33};
        return "0123456789abcdefghijklmnopqrstuvw".charAt(random.nextInt(likely[random.nextInt(likely.length)]));
    }

    private int dots(int at, boolean sparse) {
        int kind = random.nextInt(sparse ? 6 : 8);
        if (kind > 4) return due(at, "dot", any(Math.max(1, model.about(0))), any(Math.max(1, model.about(1))), -1);
        if (kind == 0) return due(at, "strew", any(15), random.nextBoolean() ? random.nextInt(1000) : random.nextInt());
        if (kind == 1) return due(at, "arc", -5 + random.nextInt(40), -5 + random.nextInt(40), 1 + random.nextInt(12), random.nextInt(256));
        if (kind == 2) return due(at, "arc", any(30), any(30), any(31), any(256));
        if (kind == 3) return due(at, "dot", any(31), any(31), any(9) - 1);
        return round(at);
    }

    /** Points of a grid that lie truly round a CENTRE, as whole rings are rare else. */
    private int round(int at) {
        int[][] ways = {{11, 3}, {3, 11}, {-3, 11}, {-11, 3}, {-11, -3}, {-3, -11}, {3, -11}, {11, -3}};
        int cx = 5 + random.nextInt(20), cy = 5 + random.nextInt(20);
        int calls = 0;
        for (int[] way : ways) {
            if (random.nextInt(12) > 0) {
                calls += due(at, "dot", (2 * cx + 1 + way[0]) / 2, (2 * cy + 1 + way[1]) / 2, -1);
            }
        }
        return calls + due(at, "hunt") + due(at, "ring", 0, 6) + due(at, "as", 0, 0);
    }

    private int asVoted(int at) {
        int place = any(6);
        return due(at, "votes", model.spot(place, 0), model.spot(place, 1), model.spot(place, 2))
            + due(at, "votes", any(31), any(31), any(23));
    }

    private int any(int below) {
        return random.nextInt(25) == 0 ? ODD_NUMBERS[random.nextInt(ODD_NUMBERS.length)] : random.nextInt(below);
    }

    private int aDot() {
        return any(Math.max(1, model.count(0) + random.nextInt(2)));
    }

    private int aRing() {
        return any(Math.max(1, model.count(1) + random.nextInt(2)));
    }

    /** Bounds by which there are several rings that take DOTS from one another. */
    private int likelyBound(int at) {
        int what = random.nextInt(5);
        int[] from = {1, 10, 0, 2, 1};
        int[] many = {3, 13, 5, 4, 4};
        return due(at, "bound", what, from[what] + random.nextInt(many[what]));
    }

    private int due(int at, String call, int... with) {
        int given = model.count(6);
        long want = answer(model, null, call, with);
        long got = answer(null, real, call, with);
        StringBuilder told = new StringBuilder(trail).append(at).append(": ").append(call).append('(');
        for (int i = 0; i < with.length; i++) told.append(i == 0 ? "" : ", ").append(with[i]);
        checks.due(told.append(')').toString(), want, got);
        String kind = call.equals("digest") ? "any" : want <= -101 || want == -1 ? String.valueOf(want) : "told";
        note(call + " " + kind);
        if (call.equals("cross") && want >= 0) note("cross as " + want);
        if (call.equals("ring") && with[1] == 6 && want >= 0) note("kind " + want);
        if (call.equals("hunt") && want >= 0) note("rings " + Math.min(want, 4));
        if (call.equals("split") && want >= 0) note("given up " + Math.min(3, model.count(6) - given));
        if (call.equals("circle") && want >= 0 && with[3] == 0) note("circle votes " + want);
        return 1;
    }

    private void note(String what) {
        seen.merge(what, 1, Integer::sum);
    }

    private static long answer(Model m, ArcRings r, String call, int[] w) {
        boolean is = m != null;
        switch (call) {
            case "letter": return is ? m.letter(w[0]) : r.letter(w[0]);
            case "blank": return is ? m.blank() : r.blank();
            case "fault": return is ? m.fault() : r.fault();
            case "sheet": return is ? m.sheet() : r.sheet();
            case "ink": return is ? m.ink(w[0]) : r.ink(w[0]);
            case "dot": return is ? m.dot(w[0], w[1], w[2]) : r.dot(w[0], w[1], w[2]);
            case "lift": return is ? m.lift(w[0]) : r.lift(w[0]);
            case "arc": return is ? m.arc(w[0], w[1], w[2], w[3]) : r.arc(w[0], w[1], w[2], w[3]);
            case "strew": return is ? m.strew(w[0], w[1]) : r.strew(w[0], w[1]);
            case "told": return is ? m.told(w[0], w[1]) : r.told(w[0], w[1]);
            case "about": return is ? m.about(w[0]) : r.about(w[0]);
            case "bound": return is ? m.bound(w[0], w[1]) : r.bound(w[0], w[1]);
            case "circle": return is ? m.circle(w[0], w[1], w[2], w[3]) : r.circle(w[0], w[1], w[2], w[3]);
            case "votes": return is ? m.votes(w[0], w[1], w[2]) : r.votes(w[0], w[1], w[2]);
            case "spot": return is ? m.spot(w[0], w[1]) : r.spot(w[0], w[1]);
            case "spots": return is ? m.spots(w[0]) : r.spots(w[0]);
            case "hunt": return is ? m.hunt() : r.hunt();
            case "split": return is ? m.split() : r.split();
            case "ring": return is ? m.ring(w[0], w[1]) : r.ring(w[0], w[1]);
            case "as": return is ? m.as(w[0], w[1]) : r.as(w[0], w[1]);
            case "cross": return is ? m.cross(w[0], w[1]) : r.cross(w[0], w[1]);
            case "count": return is ? m.count(w[0]) : r.count(w[0]);
            default: return is ? m.digest() : r.digest();
        }
    }

    /** The runs are worth little if they do not come by what is rare. */
    private void coverage() {
        if (checks.wrong() != 0) return;
        String[] wanted = {"kind 0", "kind 1", "cross as 0", "cross as 1", "rings 0", "rings 1", "rings 2", "rings 3",
            "given up 0", "circle votes 0", "circle votes 1", "circle -103", "sheet -103", "dot -104",
            "as -1", "as told", "ink -1", "told -1", "split -103", "spot told", "digest any"};
        for (String each : wanted) {
            checks.holds("seen often enough: " + each, seen.getOrDefault(each, 0) >= 20);
        }
        System.out.println(seen);
    }
}
