/** Rings out of dots: see the document for what each call promises. */
public final class ArcRings {
    public static final int NONE = -1, UNKNOWN = -101, OUTSIDE = -102, STATE = -103, FULL = -104;

    private static final int MOST_LETTERS = 50;
    private static final int MOST_DOTS = 14;
    private static final int LEAST_SIDE = 4, MOST_SIDE = 31;
    private static final int MOST_RADIUS = 22;
    private static final int FARTHEST_BEFORE = -31, FARTHEST_BEHIND = 62;
    /** So many threes do 14 DOTS have. */
    private static final int MOST_CIRCLES = 364;
    /** A RING has 2 DOTS of its own at least when it is KEPT, and no DOT is of two. */
    private static final int MOST_RINGS = 7;
    private static final int OCTANTS = 8;

    /** How the TURNS point. */
    private static final int[] TURN_X = {1, 1, 0, -1, -1, -1, 0, 1};
    private static final int[] TURN_Y = {0, 1, 1, 1, 0, -1, -1, -1};

    private final Page page;
    private final Board board;
    private final Circle shape;
    private final Sight sight;
    private final Table table;
    private final Rings kept;
    private int sheetsRead;
    private int timesHunted;
    private int givenUp;

    public ArcRings() {
        page = new Page();
        board = new Board();
        shape = new Circle(board);
        sight = new Sight(board);
        table = new Table(board, shape, sight);
        kept = new Rings(board, table, sight);
    }

    // ---- texts

    public int letter(int code) {
        if (code < 32 || code > 126) {
            return OUTSIDE;
        }
        if (page.length >= MOST_LETTERS) {
            return FULL;
        }
        page.put(code);
        return page.length;
    }

    public int blank() {
        int had = page.length;
        page.length = 0;
        return had;
    }

    public int fault() {
        return page.read();
    }

    public int sheet() {
        if (!page.isSheet()) {
            return STATE;
        }
        board.become(page.draft);
        page.length = 0;
        sheetsRead++;
        forget();
        return board.dots;
    }

    public int ink(int place) {
        if (!board.isThere()) {
            return STATE;
        }
        return place < 0 ? UNKNOWN : board.textAt(place);
    }

    // ---- dots

    public int dot(int x, int y, int turn) {
        if (!board.isThere()) {
            return STATE;
        }
        if (!board.holds(x, y) || turn < NONE || turn >= OCTANTS) {
            return OUTSIDE;
        }
        if (board.isTaken(x, y)) {
            return STATE;
        }
        return comes(x, y, turn) ? board.dots - 1 : FULL;
    }

    public int lift(int dot) {
        if (!board.has(dot)) {
            return UNKNOWN;
        }
        board.remove(dot);
        forget();
        return board.dots;
    }

    public int arc(int x, int y, int r, int octants) {
        if (!board.isThere()) {
            return STATE;
        }
        if (isBeyond(x) || isBeyond(y) || r < 1 || r > 31 || octants < 0 || octants > 255) {
            return OUTSIDE;
        }
        int slanting = slantingSteps(r);
        int came = 0;
        for (int turn = 0; turn < OCTANTS; turn++) {
            int steps = turn % 2 == 0 ? r : slanting;
            boolean wanted = (octants >> turn & 1) == 1;
            if (wanted && comes(x - steps * TURN_X[turn], y - steps * TURN_Y[turn], turn)) {
                came++;
            }
        }
        return came;
    }

    public int strew(int n, int seed) {
        if (!board.isThere()) {
            return STATE;
        }
        if (n < 1 || n > MOST_DOTS || seed < 0) {
            return OUTSIDE;
        }
        int came = 0;
        int at = seed;
        for (int i = 0; i < n; i++) {
            at = nextSeed(at);
            int x = drawn(at, board.width);
            at = nextSeed(at);
            int y = drawn(at, board.height);
            at = nextSeed(at);
            int turn = drawn(at, OCTANTS + 1);
            if (comes(x, y, turn == OCTANTS ? NONE : turn)) {
                came++;
            }
        }
        return came;
    }

    public int told(int dot, int what) {
        if (!board.has(dot)) {
            return UNKNOWN;
        }
        switch (what) {
            case 0: return board.xs[dot];
            case 1: return board.ys[dot];
            case 2: return board.turns[dot];
            case 3: return kept.ownerOf(dot);
            default: return OUTSIDE;
        }
    }

    public int about(int what) {
        if (what < 0 || what > 7) {
            return OUTSIDE;
        }
        if (!board.isThere()) {
            return STATE;
        }
        switch (what) {
            case 0: return board.width;
            case 1: return board.height;
            case 2: return board.dots;
            case 3: return board.low;
            case 4: return board.high;
            case 5: return board.slack;
            case 6: return board.need;
            default: return board.round;
        }
    }

    public int bound(int what, int v) {
        if (!board.isThere()) {
            return STATE;
        }
        if (!board.allows(what, v)) {
            return OUTSIDE;
        }
        int was = about(what + 3);
        board.setBound(what, v);
        forget();
        return was;
    }

    // ---- circles and spots

    public int circle(int a, int b, int c, int what) {
        if (!board.has(a) || !board.has(b) || !board.has(c) || a == b || a == c || b == c) {
            return UNKNOWN;
        }
        if (what < 0 || what > 4) {
            return OUTSIDE;
        }
        shape.lay(a, b, c);
        if (shape.isLine()) {
            return STATE;
        }
        switch (what) {
            case 0: return shape.vote() == NONE ? 0 : 1;
            case 1: return shape.cellX();
            case 2: return shape.cellY();
            case 3: return shape.radius();
            default: return shape.agreeing();
        }
    }

    public int votes(int cx, int cy, int r) {
        if (!board.isThere()) {
            return STATE;
        }
        table.refresh();
        return table.votesFor(cx, cy, r);
    }

    public int spot(int place, int what) {
        table.refresh();
        if (place < 0 || place >= table.size) {
            return UNKNOWN;
        }
        return table.tell(place, what);
    }

    public int spots(int what) {
        if (what < 0 || what > 3) {
            return OUTSIDE;
        }
        if (!board.isThere()) {
            return STATE;
        }
        table.refresh();
        return table.total(what);
    }

    // ---- rings

    public int hunt() {
        if (!board.isThere()) {
            return STATE;
        }
        table.refresh();
        kept.keepBest();
        timesHunted++;
        return kept.size;
    }

    public int split() {
        if (!kept.hunted) {
            return STATE;
        }
        int had = kept.size;
        kept.tellOffAnew();
        givenUp += had - kept.size;
        return kept.size;
    }

    public int ring(int ring, int what) {
        if (!kept.has(ring)) {
            return UNKNOWN;
        }
        return kept.tell(ring, what);
    }

    public int as(int ring, int kind) {
        if (!kept.has(ring)) {
            return UNKNOWN;
        }
        if (kind < 0 || kind > 1) {
            return OUTSIDE;
        }
        return kept.kindOf(ring) == kind ? ring : NONE;
    }

    public int cross(int one, int other) {
        if (!kept.has(one) || !kept.has(other) || one == other) {
            return UNKNOWN;
        }
        return kept.areCrossing(one, other) ? 1 : 0;
    }

    // ---- what is told of all

    public int count(int what) {
        switch (what) {
            case 0: return board.dots;
            case 1: return kept.size;
            case 2: return kept.ownedDots();
            case 3: return page.length;
            case 4: return sheetsRead;
            case 5: return timesHunted;
            case 6: return givenUp;
            default: return OUTSIDE;
        }
    }

    public long digest() {
        long h = 1559L;
        if (board.isThere()) {
            table.refresh();
            h = withDots(h);
            h = withSpots(h);
            h = withRings(h);
        }
        for (int i = 0; i < page.length; i++) {
            h = 31L * h + page.letters[i];
        }
        for (int what = 0; what <= 6; what++) {
            h = 31L * h + count(what);
        }
        return h;
    }

    private long withDots(long before) {
        long h = before;
        for (int what = 0; what <= 7; what++) {
            h = 31L * h + about(what);
        }
        for (int i = 0; i < board.dots; i++) {
            for (int what = 0; what <= 3; what++) {
                h = 31L * h + told(i, what);
            }
        }
        return h;
    }

    private long withSpots(long before) {
        long h = before;
        for (int what = 0; what <= 3; what++) {
            h = 31L * h + table.total(what);
        }
        for (int place = 0; place < table.size; place++) {
            for (int what = 0; what <= 6; what++) {
                h = 31L * h + table.tell(place, what);
            }
        }
        return h;
    }

    private long withRings(long before) {
        long h = before;
        for (int i = 0; i < kept.size; i++) {
            for (int what = 0; what <= 6; what++) {
                h = 31L * h + kept.tell(i, what);
            }
        }
        return h;
    }

    private boolean comes(int x, int y, int turn) {
        boolean came = board.add(x, y, turn);
        if (came) {
            forget();
        }
        return came;
    }

    /** What was found out of the DOTS and the bounds holds no more. */
    private void forget() {
        table.fresh = false;
        kept.drop();
    }

    private static boolean isBeyond(int side) {
        return side < FARTHEST_BEFORE || side > FARTHEST_BEHIND;
    }

    /** The greatest number whose square, doubled, is r times r at most. */
    private static int slantingSteps(int r) {
        int steps = 0;
        while (steps < r && 2 * (steps + 1) * (steps + 1) <= r * r) {
            steps++;
        }
        return steps;
    }

    private static int nextSeed(int seed) {
        return (int) (1103515245L * seed + 12345L & 0x7fffffffL);
    }

    private static int drawn(int seed, int of) {
        return of < 1 ? 0 : seed / 65536 % of;
    }

    /** A SPOT as one number; of equally many VOTES the lesser number comes first in order. */
    private static int keyOf(int cx, int cy, int r) {
        return r << 10 | cy << 5 | cx;
    }

    private static int keyX(int key) {
        return key & 31;
    }

    private static int keyY(int key) {
        return key >> 5 & 31;
    }

    private static int keyRadius(int key) {
        return key >> 10 & 31;
    }

    /** THE PAGE, and the SHEET that its letters are, or begin. */
    private static final class Page {
        static final int FIRST_DIGIT = 0, SECOND_DIGIT = 1, MARK = 2, ACROSS = 3, DOWN = 4, POINTING = 5;

        final int[] letters = new int[MOST_LETTERS];
        int length;
        final Board draft = new Board();
        int due;
        int side;
        int across;
        int down;

        void put(int code) {
            if (length < MOST_LETTERS) {
                letters[length] = code;
                length++;
            }
        }

        boolean isSheet() {
            return read() == length && due == ACROSS;
        }

        /** Fills the draft up to the first letter that no SHEET has there: its place, or the length. */
        int read() {
            draft.clear();
            due = FIRST_DIGIT;
            for (int at = 0; at < length; at++) {
                if (!takes(letters[at])) {
                    return at;
                }
            }
            return length;
        }

        boolean takes(int code) {
            switch (due) {
                case FIRST_DIGIT: return takesFirstDigit(code - '0');
                case SECOND_DIGIT: return takesSecondDigit(code - '0');
                case MARK: return takesMark(code);
                case ACROSS: return takesAcross(valueOf(code));
                case DOWN: return takesDown(valueOf(code));
                default: return takesTurn(code);
            }
        }

        /** A side of 1 to 3 is too short, so such a digit must have another one behind it. */
        boolean takesFirstDigit(int digit) {
            if (digit < 1 || digit > 9) {
                return false;
            }
            side = digit;
            due = digit < LEAST_SIDE ? SECOND_DIGIT : MARK;
            return true;
        }

        boolean takesSecondDigit(int digit) {
            if (digit < 0 || digit > 9 || 10 * side + digit > MOST_SIDE) {
                return false;
            }
            side = 10 * side + digit;
            due = MARK;
            return true;
        }

        boolean takesMark(int code) {
            boolean isWidth = draft.width == 0;
            if (code != (isWidth ? 'x' : ':')) {
                return false;
            }
            if (isWidth) {
                draft.width = side;
                due = FIRST_DIGIT;
            } else {
                draft.height = side;
                due = ACROSS;
            }
            return true;
        }

        boolean takesAcross(int value) {
            if (value < 0 || value >= draft.width || draft.dots >= MOST_DOTS || draft.isColumnFull(value)) {
                return false;
            }
            across = value;
            due = DOWN;
            return true;
        }

        boolean takesDown(int value) {
            if (!draft.holds(across, value) || draft.isTaken(across, value)) {
                return false;
            }
            down = value;
            due = POINTING;
            return true;
        }

        boolean takesTurn(int code) {
            if (code != '-' && (code < '0' || code > '7')) {
                return false;
            }
            due = ACROSS;
            return draft.add(across, down, code == '-' ? NONE : code - '0');
        }

        static int valueOf(int code) {
            if (code >= '0' && code <= '9') {
                return code - '0';
            }
            return code >= 'a' && code <= 'u' ? code - 'a' + 10 : NONE;
        }
    }

    /** A SHEET with its DOTS and bounds; its width is 0 as long as there is none. */
    private static final class Board {
        int width;
        int height;
        int dots;
        int low;
        int high;
        int slack;
        int need;
        int round;
        final int[] xs = new int[MOST_DOTS];
        final int[] ys = new int[MOST_DOTS];
        final int[] turns = new int[MOST_DOTS];

        boolean isThere() {
            return width > 0;
        }

        void clear() {
            width = 0;
            height = 0;
            dots = 0;
            low = 2;
            high = 12;
            slack = 1;
            need = 4;
            round = 3;
        }

        void become(Board other) {
            clear();
            width = other.width;
            height = other.height;
            for (int i = 0; i < other.dots; i++) {
                add(other.xs[i], other.ys[i], other.turns[i]);
            }
        }

        boolean has(int dot) {
            return dot >= 0 && dot < dots;
        }

        boolean holds(int x, int y) {
            return x >= 0 && x < width && y >= 0 && y < height;
        }

        boolean isTaken(int x, int y) {
            for (int i = 0; i < dots; i++) {
                if (xs[i] == x && ys[i] == y) {
                    return true;
                }
            }
            return false;
        }

        boolean isColumnFull(int x) {
            int there = 0;
            for (int i = 0; i < dots; i++) {
                if (xs[i] == x) {
                    there++;
                }
            }
            return there >= height;
        }

        boolean add(int x, int y, int turn) {
            if (!holds(x, y) || isTaken(x, y) || dots >= MOST_DOTS) {
                return false;
            }
            xs[dots] = x;
            ys[dots] = y;
            turns[dots] = turn;
            dots++;
            return true;
        }

        void remove(int dot) {
            if (!has(dot)) {
                return;
            }
            for (int i = dot; i + 1 < dots; i++) {
                xs[i] = xs[i + 1];
                ys[i] = ys[i + 1];
                turns[i] = turns[i + 1];
            }
            dots--;
        }

        boolean allows(int what, int v) {
            switch (what) {
                case 0: return v >= 1 && v <= high;
                case 1: return v >= low && v <= MOST_RADIUS;
                case 2: return v >= 0 && v <= 4;
                case 3: return v >= 2 && v <= MOST_DOTS;
                case 4: return v >= 1 && v <= OCTANTS;
                default: return false;
            }
        }

        void setBound(int what, int v) {
            switch (what) {
                case 0: low = v; break;
                case 1: high = v; break;
                case 2: slack = v; break;
                case 3: need = v; break;
                case 4: round = v; break;
                default: break;
            }
        }

        /** Whether a point AGREES with a DOT; x and y are those of the point times scale, which is above 0. */
        boolean agrees(int dot, int x, int y, int scale) {
            int turn = turns[dot];
            if (turn < 0 || turn >= OCTANTS) {
                return true;
            }
            int u = x - scale * xs[dot];
            int v = y - scale * ys[dot];
            int along = u * TURN_X[turn] + v * TURN_Y[turn];
            int aside = u * TURN_Y[turn] - v * TURN_X[turn];
            return along > 0 && aside <= along && -aside <= along;
        }

        /** The code of the letter at a place of the SHEET's text, or NONE behind its end. */
        int textAt(int place) {
            int mark = width < 10 ? 1 : 2;
            int colon = mark + (height < 10 ? 2 : 3);
            if (place < mark) {
                return digitAt(width, mark - 1 - place);
            }
            if (place == mark) {
                return 'x';
            }
            if (place < colon) {
                return digitAt(height, colon - 1 - place);
            }
            if (place == colon) {
                return ':';
            }
            return dotLetter(place - colon - 1);
        }

        int dotLetter(int behindColon) {
            int dot = behindColon / 3;
            if (!has(dot)) {
                return NONE;
            }
            switch (behindColon % 3) {
                case 0: return signOf(xs[dot]);
                case 1: return signOf(ys[dot]);
                default: return turns[dot] == NONE ? '-' : '0' + turns[dot];
            }
        }

        static int digitAt(int number, int fromBehind) {
            return '0' + (fromBehind == 0 ? number % 10 : number / 10);
        }

        static int signOf(int value) {
            return value < 10 ? '0' + value : 'a' + value - 10;
        }
    }

    /** The CIRCLE of three DOTS, in whole numbers: its MIDDLE is held times a divisor. */
    private static final class Circle {
        final Board board;
        int first;
        int second;
        int third;
        int divisor;
        int middleX;
        int middleY;

        Circle(Board board) {
            this.board = board;
        }

        void lay(int a, int b, int c) {
            first = a;
            second = b;
            third = c;
            int bx = board.xs[b] - board.xs[a];
            int by = board.ys[b] - board.ys[a];
            int cx = board.xs[c] - board.xs[a];
            int cy = board.ys[c] - board.ys[a];
            int bSquared = bx * bx + by * by;
            int cSquared = cx * cx + cy * cy;
            int area = bx * cy - by * cx;
            // a divisor above 0 keeps the signs that AGREES looks at
            int sign = area < 0 ? -1 : 1;
            divisor = 2 * area * sign;
            middleX = divisor * board.xs[a] + sign * (cy * bSquared - by * cSquared);
            middleY = divisor * board.ys[a] + sign * (bx * cSquared - cx * bSquared);
        }

        boolean isLine() {
            return divisor == 0;
        }

        int cellX() {
            return divisor == 0 ? 0 : Math.floorDiv(middleX, divisor);
        }

        int cellY() {
            return divisor == 0 ? 0 : Math.floorDiv(middleY, divisor);
        }

        int radius() {
            if (divisor == 0) {
                return 0;
            }
            long u = middleX - divisor * board.xs[first];
            long v = middleY - divisor * board.ys[first];
            return rootOf((u * u + v * v) / ((long) divisor * divisor));
        }

        int agreeing() {
            int many = board.agrees(first, middleX, middleY, divisor) ? 1 : 0;
            many += board.agrees(second, middleX, middleY, divisor) ? 1 : 0;
            return many + (board.agrees(third, middleX, middleY, divisor) ? 1 : 0);
        }

        /** The key of the SPOT for which it VOTES, or NONE. */
        int vote() {
            if (isLine()) {
                return NONE;
            }
            int cx = cellX();
            int cy = cellY();
            if (!board.holds(cx, cy) || agreeing() < 3) {
                return NONE;
            }
            int r = radius();
            return r < board.low || r > board.high ? NONE : keyOf(cx, cy, r);
        }

        /** The root of a number, rounded down; three DOTS of a SHEET stay far under 2 to the 20. */
        static int rootOf(long number) {
            long root = 0L;
            for (long bit = 1L << 20; bit > 0L; bit >>= 1) {
                if ((root + bit) * (root + bit) <= number) {
                    root += bit;
                }
            }
            return (int) root;
        }
    }

    /** The DOTS as seen from the CENTRE of a SPOT; all ways are doubled, so that they are whole numbers. */
    private static final class Sight {
        final Board board;
        int centreX;
        int centreY;
        int radius;

        Sight(Board board) {
            this.board = board;
        }

        void from(int key) {
            centreX = 2 * keyX(key) + 1;
            centreY = 2 * keyY(key) + 1;
            radius = keyRadius(key);
        }

        int squared(int dot) {
            int u = 2 * board.xs[dot] - centreX;
            int v = 2 * board.ys[dot] - centreY;
            return u * u + v * v;
        }

        boolean isSupportedBy(int dot) {
            int nearest = Math.max(0, 2 * radius - board.slack);
            int farthest = 2 * radius + 2 + board.slack;
            int squared = squared(dot);
            return squared >= nearest * nearest && squared <= farthest * farthest
                && board.agrees(dot, centreX, centreY, 2);
        }

        int supporters() {
            int bits = 0;
            for (int i = 0; i < board.dots; i++) {
                if (isSupportedBy(i)) {
                    bits |= 1 << i;
                }
            }
            return bits;
        }

        /** How far off the ring's own line a DOT is, as SPLIT measures it. */
        int farness(int dot) {
            int line = 2 * radius + 1;
            return Math.abs(squared(dot) - line * line);
        }

        int octant(int dot) {
            int u = 2 * board.xs[dot] - centreX;
            int v = 2 * board.ys[dot] - centreY;
            int even = v > 0 ? (u > 0 ? 0 : 2) : (u < 0 ? 4 : 6);
            return v * v > u * u ? even + 1 : even;
        }

        int span(int bits) {
            int seen = 0;
            for (int i = 0; i < board.dots; i++) {
                if ((bits >> i & 1) == 1) {
                    seen |= 1 << octant(i);
                }
            }
            return Integer.bitCount(seen);
        }
    }

    /** All SPOTS in order, found anew when they are asked for after a change. */
    private static final class Table {
        final Board board;
        final Circle shape;
        final Sight sight;
        boolean fresh;
        int size;
        int voting;
        int offLine;
        /** The key of each VOTE. */
        final int[] ballots = new int[MOST_CIRCLES];
        /** How many VOTES fewer than all a SPOT has, then its key: so that lesser numbers come first. */
        final int[] order = new int[MOST_CIRCLES];
        final int[] supporters = new int[MOST_CIRCLES];

        Table(Board board, Circle shape, Sight sight) {
            this.board = board;
            this.shape = shape;
            this.sight = sight;
        }

        void refresh() {
            if (fresh) {
                return;
            }
            gatherBallots();
            sortUp(ballots, voting);
            countBallots();
            sortUp(order, size);
            for (int place = 0; place < size; place++) {
                sight.from(keyAt(place));
                supporters[place] = sight.supporters();
            }
            fresh = true;
        }

        void gatherBallots() {
            voting = 0;
            offLine = 0;
            for (int a = 0; a < board.dots; a++) {
                for (int b = a + 1; b < board.dots; b++) {
                    for (int c = b + 1; c < board.dots; c++) {
                        gatherBallot(a, b, c);
                    }
                }
            }
        }

        void gatherBallot(int a, int b, int c) {
            shape.lay(a, b, c);
            if (shape.isLine()) {
                return;
            }
            offLine++;
            int key = shape.vote();
            if (key != NONE && voting < MOST_CIRCLES) {
                ballots[voting] = key;
                voting++;
            }
        }

        /** Like ballots lie together, as they are sorted. */
        void countBallots() {
            size = 0;
            int from = 0;
            for (int at = 0; at < voting; at++) {
                if (at + 1 == voting || ballots[at + 1] != ballots[at]) {
                    order[size] = MOST_CIRCLES - (at + 1 - from) << 15 | ballots[at];
                    size++;
                    from = at + 1;
                }
            }
        }

        int keyAt(int place) {
            return order[place] & 0x7fff;
        }

        int votesAt(int place) {
            return MOST_CIRCLES - (order[place] >> 15);
        }

        int votesFor(int cx, int cy, int r) {
            for (int place = 0; place < size; place++) {
                int key = keyAt(place);
                if (keyX(key) == cx && keyY(key) == cy && keyRadius(key) == r) {
                    return votesAt(place);
                }
            }
            return 0;
        }

        int foremost() {
            int many = 0;
            while (many < size && votesAt(many) == votesAt(0)) {
                many++;
            }
            return many;
        }

        int total(int what) {
            switch (what) {
                case 0: return size;
                case 1: return voting;
                case 2: return offLine;
                case 3: return foremost();
                default: return OUTSIDE;
            }
        }

        int tell(int place, int what) {
            int key = keyAt(place);
            switch (what) {
                case 0: return keyX(key);
                case 1: return keyY(key);
                case 2: return keyRadius(key);
                case 3: return votesAt(place);
                case 4: return Integer.bitCount(supporters[place]);
                case 5:
                    sight.from(key);
                    return sight.span(supporters[place]);
                case 6: return supporters[place];
                default: return OUTSIDE;
            }
        }

        /** By steps that grow less (121, 40, 13, 4, 1), as a row may have some hundred numbers. */
        static void sortUp(int[] row, int length) {
            for (int step = 121; step > 0; step /= 3) {
                for (int i = step; i < length; i++) {
                    int number = row[i];
                    int to = i;
                    while (to >= step && row[to - step] > number) {
                        row[to] = row[to - step];
                        to -= step;
                    }
                    row[to] = number;
                }
            }
        }
    }

    /** The RINGS that were KEPT, with their own DOTS as bits. */
    private static final class Rings {
        final Board board;
        final Table table;
        final Sight sight;
        boolean hunted;
        int size;
        final int[] keys = new int[MOST_RINGS];
        final int[] own = new int[MOST_RINGS];

        Rings(Board board, Table table, Sight sight) {
            this.board = board;
            this.table = table;
            this.sight = sight;
        }

        void drop() {
            hunted = false;
            size = 0;
        }

        boolean has(int ring) {
            return ring >= 0 && ring < size;
        }

        void keepBest() {
            hunted = true;
            size = 0;
            int free = (1 << board.dots) - 1;
            while (size < MOST_RINGS) {
                int place = bestPlace(free);
                if (place == NONE) {
                    return;
                }
                keys[size] = table.keyAt(place);
                own[size] = table.supporters[place] & free;
                free &= ~own[size];
                size++;
            }
        }

        int bestPlace(int free) {
            int best = NONE;
            int most = 0;
            for (int place = 0; place < table.size; place++) {
                int worth = worthOf(table.keyAt(place), table.supporters[place] & free);
                if (worth > most) {
                    most = worth;
                    best = place;
                }
            }
            return best;
        }

        int worthOf(int key, int bits) {
            int many = Integer.bitCount(bits);
            if (many < board.need) {
                return 0;
            }
            sight.from(key);
            int span = sight.span(bits);
            return span < board.round ? 0 : many * span;
        }

        /** SPLIT: each pass but the last gives up one RING. */
        void tellOffAnew() {
            for (int pass = 0; pass <= MOST_RINGS; pass++) {
                tellOff();
                int weakest = weakest();
                if (weakest == NONE) {
                    return;
                }
                giveUp(weakest);
            }
        }

        void tellOff() {
            for (int i = 0; i < size; i++) {
                own[i] = 0;
            }
            for (int dot = 0; dot < board.dots; dot++) {
                int ring = nearestRing(dot);
                if (has(ring)) {
                    own[ring] |= 1 << dot;
                }
            }
        }

        int nearestRing(int dot) {
            int nearest = NONE;
            int least = 0;
            for (int i = 0; i < size; i++) {
                sight.from(keys[i]);
                if (sight.isSupportedBy(dot) && (nearest == NONE || sight.farness(dot) < least)) {
                    nearest = i;
                    least = sight.farness(dot);
                }
            }
            return nearest;
        }

        int weakest() {
            int weakest = NONE;
            int fewest = board.need - 1;
            for (int i = 0; i < size; i++) {
                if (ownCount(i) <= fewest) {
                    weakest = i;
                    fewest = ownCount(i);
                }
            }
            return weakest;
        }

        /** Whose the DOTS are is told off anew behind this. */
        void giveUp(int ring) {
            if (!has(ring)) {
                return;
            }
            for (int i = ring; i + 1 < size; i++) {
                keys[i] = keys[i + 1];
            }
            size--;
        }

        int ownCount(int ring) {
            return Integer.bitCount(own[ring]);
        }

        int ownedDots() {
            int many = 0;
            for (int i = 0; i < size; i++) {
                many += ownCount(i);
            }
            return many;
        }

        int ownerOf(int dot) {
            for (int i = 0; i < size; i++) {
                if ((own[i] >> dot & 1) == 1) {
                    return i;
                }
            }
            return NONE;
        }

        int spanOf(int ring) {
            sight.from(keys[ring]);
            return sight.span(own[ring]);
        }

        int kindOf(int ring) {
            return spanOf(ring) == OCTANTS ? 0 : 1;
        }

        /** Both radii have a half more, so their sum has 1 more, and what one has above the other stays. */
        boolean areCrossing(int one, int other) {
            int x = keyX(keys[one]) - keyX(keys[other]);
            int y = keyY(keys[one]) - keyY(keys[other]);
            int together = keyRadius(keys[one]) + keyRadius(keys[other]) + 1;
            int apart = keyRadius(keys[one]) - keyRadius(keys[other]);
            int squared = x * x + y * y;
            return squared <= together * together && squared >= apart * apart;
        }

        int tell(int ring, int what) {
            switch (what) {
                case 0: return keyX(keys[ring]);
                case 1: return keyY(keys[ring]);
                case 2: return keyRadius(keys[ring]);
                case 3: return ownCount(ring);
                case 4: return own[ring];
                case 5: return spanOf(ring);
                case 6: return kindOf(ring);
                default: return OUTSIDE;
            }
        }
    }
}
