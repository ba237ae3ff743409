import java.math.BigInteger;
import java.util.ArrayList;
import java.util.Arrays;
import java.util.Comparator;
import java.util.List;
import java.util.Map;
import java.util.TreeMap;
import java.util.TreeSet;
import java.util.regex.Matcher;
import java.util.regex.Pattern;

/** The document once more, as slowly and plainly as it can be said: ArcRings is held against it. */
final class Model {
    static final int NONE = -1, UNKNOWN = -101, OUTSIDE = -102, STATE = -103, FULL = -104;
    private static final int[][] POINTS = {{1, 0}, {1, 1}, {0, 1}, {-1, 1}, {-1, 0}, {-1, -1}, {0, -1}, {1, -1}};
    private static final int[][] LIMITS = {{1, 22}, {1, 22}, {0, 4}, {2, 14}, {1, 8}};
    private static final String SIGNS = "0123456789abcdefghijklmnopqrstu";
    private static final Pattern TEXT = Pattern.compile(
        "([4-9]|[12][0-9]|3[01])x([4-9]|[12][0-9]|3[01]):((?:[0-9a-u][0-9a-u][-0-7]){0,14})");

    /** A SPOT; as a RING it has DOTS of its own. */
    private static final class Spot {
        final int cx, cy, r;
        int votes;
        List<Integer> own = new ArrayList<>();

        Spot(int cx, int cy, int r) {
            this.cx = cx;
            this.cy = cy;
            this.r = r;
        }
    }

    private String page = "";
    private boolean there;
    private int width, height;
    private List<int[]> dots = new ArrayList<>();
    private int[] bounds = {2, 12, 1, 4, 3};
    private List<Spot> rings;
    private int read, hunted, givenUp;
    private List<Spot> known;

    int letter(int code) {
        if (code < 32 || code > 126) return OUTSIDE;
        if (page.length() + 1 > 50) return FULL;
        page += (char) code;
        return page.length();
    }

    int blank() {
        int had = page.length();
        page = "";
        return had;
    }

    int fault() {
        int sound = 0;
        while (sound < page.length() && begins(page.substring(0, sound + 1))) sound++;
        return sound;
    }

    /** Whether some SHEET's text begins so. */
    private static boolean begins(String start) {
        Matcher matcher = TEXT.matcher(start);
        if (!matcher.matches() && !matcher.hitEnd()) return false;
        int colon = start.indexOf(':');
        if (colon < 0) return true;
        String[] sides = start.substring(0, colon).split("x");
        int w = Integer.parseInt(sides[0]), h = Integer.parseInt(sides[1]);
        TreeSet<String> places = new TreeSet<>();
        for (int at = colon + 1; at < start.length(); at += 3) {
            String place = start.substring(at, Math.min(at + 2, start.length()));
            if (SIGNS.indexOf(place.charAt(0)) >= w) return false;
            if (place.length() == 2 && (SIGNS.indexOf(place.charAt(1)) >= h || !places.add(place))) return false;
            if (place.length() == 1) {
                boolean any = false;
                for (int y = 0; y < h; y++) any |= !places.contains(place + SIGNS.charAt(y));
                if (!any) return false;
            }
        }
        return true;
    }

    int sheet() {
        Matcher matcher = TEXT.matcher(page);
        if (!matcher.matches() || fault() != page.length()) return STATE;
        there = true;
        width = Integer.parseInt(matcher.group(1));
        height = Integer.parseInt(matcher.group(2));
        dots = new ArrayList<>();
        String rest = matcher.group(3);
        for (int at = 0; at < rest.length(); at += 3) {
            char turn = rest.charAt(at + 2);
            dots.add(new int[] {SIGNS.indexOf(rest.charAt(at)), SIGNS.indexOf(rest.charAt(at + 1)),
                turn == '-' ? NONE : turn - '0'});
        }
        bounds = new int[] {2, 12, 1, 4, 3};
        page = "";
        read++;
        change();
        return dots.size();
    }

    String text() {
        StringBuilder text = new StringBuilder(width + "x" + height + ":");
        for (int[] dot : dots) {
            text.append(SIGNS.charAt(dot[0])).append(SIGNS.charAt(dot[1])).append(dot[2] == NONE ? "-" : "" + dot[2]);
        }
        return text.toString();
    }

    int ink(int place) {
        if (!there) return STATE;
        if (place < 0) return UNKNOWN;
        return place < text().length() ? text().charAt(place) : NONE;
    }

    private void change() {
        rings = null;
        known = null;
    }

    private boolean inside(int x, int y) {
        return x >= 0 && y >= 0 && x < width && y < height;
    }

    private boolean lies(int x, int y) {
        for (int[] dot : dots) if (dot[0] == x && dot[1] == y) return true;
        return false;
    }

    private int put(int x, int y, int turn) {
        if (!inside(x, y) || lies(x, y) || dots.size() == 14) return 0;
        dots.add(new int[] {x, y, turn});
        change();
        return 1;
    }

    int dot(int x, int y, int turn) {
        if (!there) return STATE;
        if (!inside(x, y) || turn < -1 || turn > 7) return OUTSIDE;
        if (lies(x, y)) return STATE;
        if (dots.size() == 14) return FULL;
        put(x, y, turn);
        return dots.size() - 1;
    }

    int lift(int dot) {
        if (!there || dot < 0 || dot >= dots.size()) return UNKNOWN;
        dots.remove(dot);
        change();
        return dots.size();
    }

    int arc(int x, int y, int r, int octants) {
        if (!there) return STATE;
        if (x < -31 || x > 62 || y < -31 || y > 62 || r < 1 || r > 31 || octants < 0 || octants > 255) return OUTSIDE;
        int came = 0;
        for (int k = 0; k < 8; k++) {
            if ((octants & 1 << k) == 0) continue;
            int steps = r;
            if (k % 2 == 1) while (2 * steps * steps > r * r) steps--;
            came += put(x - steps * POINTS[k][0], y - steps * POINTS[k][1], k);
        }
        return came;
    }

    int strew(int n, int seed) {
        if (!there) return STATE;
        if (n < 1 || n > 14 || seed < 0) return OUTSIDE;
        BigInteger at = BigInteger.valueOf(seed);
        int[] of = {width, height, 9};
        int came = 0;
        for (int i = 0; i < n; i++) {
            int[] drawn = new int[3];
            for (int j = 0; j < 3; j++) {
                at = at.multiply(BigInteger.valueOf(1103515245)).add(BigInteger.valueOf(12345))
                    .mod(BigInteger.TWO.pow(31));
                drawn[j] = at.divide(BigInteger.valueOf(65536)).mod(BigInteger.valueOf(of[j])).intValue();
            }
            came += put(drawn[0], drawn[1], drawn[2] == 8 ? NONE : drawn[2]);
        }
        return came;
    }

    int told(int dot, int what) {
        if (!there || dot < 0 || dot >= dots.size()) return UNKNOWN;
        if (what < 0 || what > 3) return OUTSIDE;
        if (what < 3) return dots.get(dot)[what];
        if (rings != null) for (int i = 0; i < rings.size(); i++) if (rings.get(i).own.contains(dot)) return i;
        return NONE;
    }

    int about(int what) {
        if (what < 0 || what > 7) return OUTSIDE;
        if (!there) return STATE;
        return new int[] {width, height, dots.size(), bounds[0], bounds[1], bounds[2], bounds[3], bounds[4]}[what];
    }

    int bound(int what, int v) {
        if (!there) return STATE;
        if (what < 0 || what > 4) return OUTSIDE;
        if (v < LIMITS[what][0] || v > LIMITS[what][1]) return OUTSIDE;
        if (what == 0 && v > bounds[1] || what == 1 && v < bounds[0]) return OUTSIDE;
        int was = bounds[what];
        bounds[what] = v;
        change();
        return was;
    }

    private static boolean agrees(int[] dot, BigInteger u, BigInteger v) {
        if (dot[2] == NONE) return true;
        BigInteger p = BigInteger.valueOf(POINTS[dot[2]][0]), q = BigInteger.valueOf(POINTS[dot[2]][1]);
        BigInteger a = u.multiply(p).add(v.multiply(q));
        BigInteger b = u.multiply(q).subtract(v.multiply(p));
        return a.signum() > 0 && b.abs().compareTo(a) <= 0;
    }

    /** VOTES, first and second number, RADIUS, how many agree; null on one line. */
    private int[] circleOf(int a, int b, int c) {
        int[] p = dots.get(a), q = dots.get(b), s = dots.get(c);
        // both bisectors: 2 (q - p) m = q q - p p, and so for s
        long a1 = 2L * (q[0] - p[0]), b1 = 2L * (q[1] - p[1]), c1 = norm(q) - norm(p);
        long a2 = 2L * (s[0] - p[0]), b2 = 2L * (s[1] - p[1]), c2 = norm(s) - norm(p);
        BigInteger under = BigInteger.valueOf(a1 * b2 - a2 * b1);
        if (under.signum() == 0) return null;
        BigInteger x = BigInteger.valueOf(c1 * b2 - c2 * b1), y = BigInteger.valueOf(a1 * c2 - a2 * c1);
        if (under.signum() < 0) {
            under = under.negate();
            x = x.negate();
            y = y.negate();
        }
        int agree = 0;
        for (int[] dot : new int[][] {p, q, s}) {
            BigInteger u = x.subtract(under.multiply(BigInteger.valueOf(dot[0])));
            BigInteger v = y.subtract(under.multiply(BigInteger.valueOf(dot[1])));
            agree += agrees(dot, u, v) ? 1 : 0;
        }
        BigInteger u = x.subtract(under.multiply(BigInteger.valueOf(p[0])));
        BigInteger v = y.subtract(under.multiply(BigInteger.valueOf(p[1])));
        int radius = u.multiply(u).add(v.multiply(v)).divide(under.multiply(under)).sqrt().intValueExact();
        int cx = floor(x, under), cy = floor(y, under);
        boolean votes = inside(cx, cy) && agree == 3 && radius >= bounds[0] && radius <= bounds[1];
        return new int[] {votes ? 1 : 0, cx, cy, radius, agree};
    }

    private static long norm(int[] dot) {
        return (long) dot[0] * dot[0] + (long) dot[1] * dot[1];
    }

    private static int floor(BigInteger over, BigInteger under) {
        return over.subtract(over.mod(under)).divide(under).intValueExact();
    }

    int circle(int a, int b, int c, int what) {
        for (int dot : new int[] {a, b, c}) if (!there || dot < 0 || dot >= dots.size()) return UNKNOWN;
        if (a == b || b == c || a == c) return UNKNOWN;
        if (what < 0 || what > 4) return OUTSIDE;
        int[] circle = circleOf(a, b, c);
        return circle == null ? STATE : circle[what];
    }

    private List<int[]> circles() {
        List<int[]> all = new ArrayList<>();
        for (int a = 0; a < dots.size(); a++)
            for (int b = a + 1; b < dots.size(); b++)
                for (int c = b + 1; c < dots.size(); c++) {
                    int[] circle = circleOf(a, b, c);
                    if (circle != null) all.add(circle);
                }
        return all;
    }

    private List<Spot> allSpots() {
        if (known != null) return known;
        Map<String, Spot> byName = new TreeMap<>();
        for (int[] circle : circles()) {
            if (circle[0] == 0) continue;
            String name = circle[1] + "," + circle[2] + "," + circle[3];
            byName.computeIfAbsent(name, n -> new Spot(circle[1], circle[2], circle[3])).votes++;
        }
        known = new ArrayList<>(byName.values());
        known.sort(Comparator.comparingInt((Spot s) -> -s.votes).thenComparingInt(s -> s.r)
            .thenComparingInt(s -> s.cy).thenComparingInt(s -> s.cx));
        return known;
    }

    private static int squared(Spot spot, int[] dot) {
        int u = 2 * dot[0] - 2 * spot.cx - 1, v = 2 * dot[1] - 2 * spot.cy - 1;
        return u * u + v * v;
    }

    private boolean supports(int[] dot, Spot spot) {
        double distance = Math.sqrt(squared(spot, dot));
        return agrees(dot, BigInteger.valueOf(2 * spot.cx + 1 - 2 * dot[0]), BigInteger.valueOf(2 * spot.cy + 1 - 2 * dot[1]))
            && distance >= 2 * spot.r - bounds[2] && distance <= 2 * spot.r + 2 + bounds[2];
    }

    private List<Integer> supporters(Spot spot) {
        List<Integer> all = new ArrayList<>();
        for (int i = 0; i < dots.size(); i++) if (supports(dots.get(i), spot)) all.add(i);
        return all;
    }

    private int span(Spot spot, List<Integer> some) {
        TreeSet<Integer> octants = new TreeSet<>();
        for (int i : some) {
            double u = dots.get(i)[0] - (spot.cx + 0.5), v = dots.get(i)[1] - (spot.cy + 0.5);
            int quarter = u > 0 && v > 0 ? 0 : u < 0 && v > 0 ? 2 : u < 0 && v < 0 ? 4 : 6;
            octants.add(quarter + (Math.abs(v) > Math.abs(u) ? 1 : 0));
        }
        return octants.size();
    }

    private static int bits(List<Integer> some) {
        int bits = 0;
        for (int i : some) bits += 1 << i;
        return bits;
    }

    int votes(int cx, int cy, int r) {
        if (!there) return STATE;
        int many = 0;
        for (int[] circle : circles()) {
            if (circle[0] == 1 && Arrays.equals(new int[] {cx, cy, r}, Arrays.copyOfRange(circle, 1, 4))) many++;
        }
        return many;
    }

    int spot(int place, int what) {
        if (!there || place < 0 || place >= allSpots().size()) return UNKNOWN;
        if (what < 0 || what > 6) return OUTSIDE;
        Spot spot = allSpots().get(place);
        List<Integer> by = supporters(spot);
        return new int[] {spot.cx, spot.cy, spot.r, spot.votes, by.size(), span(spot, by), bits(by)}[what];
    }

    int spots(int what) {
        if (what < 0 || what > 3) return OUTSIDE;
        if (!there) return STATE;
        if (what == 0) return allSpots().size();
        if (what == 1) return (int) circles().stream().filter(c -> c[0] == 1).count();
        if (what == 2) return circles().size();
        int most = allSpots().stream().mapToInt(s -> s.votes).max().orElse(0);
        return (int) allSpots().stream().filter(s -> s.votes == most).count();
    }

    int hunt() {
        if (!there) return STATE;
        hunted++;
        rings = new ArrayList<>();
        List<Integer> free = new ArrayList<>();
        for (int i = 0; i < dots.size(); i++) free.add(i);
        while (true) {
            Spot best = null;
            int most = -1;
            for (Spot spot : allSpots()) {
                List<Integer> by = supporters(spot);
                by.retainAll(free);
                int span = span(spot, by);
                if (by.size() < bounds[3] || span < bounds[4] || by.size() * span <= most) continue;
                most = by.size() * span;
                best = new Spot(spot.cx, spot.cy, spot.r);
                best.own = by;
            }
            if (best == null) return rings.size();
            rings.add(best);
            free.removeAll(best.own);
        }
    }

    int split() {
        if (rings == null) return STATE;
        while (true) {
            for (Spot ring : rings) ring.own = new ArrayList<>();
            for (int i = 0; i < dots.size(); i++) {
                Spot nearest = null;
                int least = Integer.MAX_VALUE;
                for (Spot ring : rings) {
                    int far = Math.abs(squared(ring, dots.get(i)) - (2 * ring.r + 1) * (2 * ring.r + 1));
                    if (supports(dots.get(i), ring) && far < least) {
                        nearest = ring;
                        least = far;
                    }
                }
                if (nearest != null) nearest.own.add(i);
            }
            Spot weakest = null;
            for (int i = rings.size() - 1; i >= 0; i--) {
                Spot ring = rings.get(i);
                if (ring.own.size() < bounds[3] && (weakest == null || ring.own.size() < weakest.own.size())) weakest = ring;
            }
            if (weakest == null) return rings.size();
            rings.remove(weakest);
            givenUp++;
        }
    }

    private boolean isRing(int ring) {
        return rings != null && ring >= 0 && ring < rings.size();
    }

    int ring(int number, int what) {
        if (!isRing(number)) return UNKNOWN;
        if (what < 0 || what > 6) return OUTSIDE;
        Spot ring = rings.get(number);
        int span = span(ring, ring.own);
        return new int[] {ring.cx, ring.cy, ring.r, ring.own.size(), bits(ring.own), span, span == 8 ? 0 : 1}[what];
    }

    int as(int ring, int kind) {
        if (!isRing(ring)) return UNKNOWN;
        if (kind != 0 && kind != 1) return OUTSIDE;
        return ring(ring, 6) == kind ? ring : NONE;
    }

    int cross(int one, int other) {
        if (!isRing(one) || !isRing(other) || one == other) return UNKNOWN;
        Spot a = rings.get(one), b = rings.get(other);
        double distance = Math.hypot(a.cx - b.cx, a.cy - b.cy);
        double first = a.r + 0.5, second = b.r + 0.5;
        return distance <= first + second && distance >= Math.abs(first - second) ? 1 : 0;
    }

    int count(int what) {
        switch (what) {
            case 0: return dots.size();
            case 1: return rings == null ? 0 : rings.size();
            case 2: return rings == null ? 0 : rings.stream().mapToInt(r -> r.own.size()).sum();
            case 3: return page.length();
            case 4: return read;
            case 5: return hunted;
            case 6: return givenUp;
            default: return OUTSIDE;
        }
    }

    long digest() {
        List<Integer> all = new ArrayList<>();
        if (there) {
            for (int what = 0; what < 8; what++) all.add(about(what));
            for (int i = 0; i < dots.size(); i++) for (int what = 0; what < 4; what++) all.add(told(i, what));
            for (int what = 0; what < 4; what++) all.add(spots(what));
            for (int i = 0; i < allSpots().size(); i++) for (int what = 0; what < 7; what++) all.add(spot(i, what));
            if (rings != null) for (int i = 0; i < rings.size(); i++) for (int what = 0; what < 7; what++) all.add(ring(i, what));
        }
        for (char letter : page.toCharArray()) all.add((int) letter);
        for (int what = 0; what < 7; what++) all.add(count(what));
        long h = 1559;
        for (int each : all) h = 31 * h + each;
        return h;
    }
}
