import java.util.Arrays;

/**
 * Curves y y = f(x) by a small prime: their places, classes, rooms of functions, codes and turns,
 * and covers of the line. The promises are numbered in the project's document.
 */
public final class CurveRooms {
    public static final int NONE = -1, BAD = -2, NO = -3, FULL = -4;

    private static final int FIRST_PRIME = 7;
    private static final int GREATEST_PRIME = 13;
    private static final int MOST_PUSHED = 6;
    private static final int REGISTERS = 6;
    private static final int MOST_POINTS = 27;
    private static final int MOST_TOLD = 26;
    private static final int GREATEST_POLE = 30;
    private static final int MOST_WORDS = 20000;
    private static final int MOST_TIMES = 100000;
    private static final int GREATEST_AMOUNT = 4;
    private static final int GREATEST_POWER = 6;
    private static final int AMOUNT_BAD = -100, AMOUNT_NO = -200;
    private static final long SHARE_NONE = -1000000000L, SHARE_BAD = -2000000000L, SHARE_NO = -2100000000L;

    private final Rows rows;
    private final int[] pushed;
    private int pushedMany;
    private final Row candidate;
    private final Curve onCurve;
    private final Adder adder;
    private final Pair[] registers;
    private final Listing listing;
    private final Group theGroup;
    private final Room theRoom;
    private final Code theCode;
    private final Turns theTurns;
    private final Cover theCover;

    public CurveRooms() {
        rows = new Rows();
        pushed = new int[MOST_PUSHED];
        pushedMany = 0;
        candidate = new Row();
        onCurve = new Curve(rows);
        adder = new Adder(rows, onCurve);
        registers = new Pair[REGISTERS];
        for (int r = 0; r < REGISTERS; r++) registers[r] = new Pair();
        listing = new Listing(rows, onCurve);
        theGroup = new Group(adder, listing);
        theRoom = new Room(adder, onCurve);
        theCode = new Code(rows, onCurve);
        theTurns = new Turns(rows, onCurve);
        theCover = new Cover();
    }

    // ---- the curve

    public int prime(int p) {
        if (p != 3 && p != 5 && p != 7 && p != 11 && p != 13) return BAD;
        rows.takePrime(p);
        pushedMany = 0;
        onCurve.drop();
        forgetCurve();
        theCode.clearTold();
        theCover.clear();
        return 1;
    }

    public int push(int v) {
        if (!isNumber(v)) return BAD;
        if (pushedMany >= MOST_PUSHED) return FULL;
        pushed[pushedMany] = v;
        pushedMany++;
        return pushedMany;
    }

    public int curve() {
        candidate.clear();
        for (int i = 0; i < pushedMany && i < MOST_PUSHED; i++) candidate.put(i, pushed[i]);
        pushedMany = 0;
        if (!onCurve.isFit(candidate)) return NO;
        onCurve.take(candidate);
        forgetCurve();
        return onCurve.genus;
    }

    public int points() {
        return onCurve.stands() ? onCurve.pointMany : NO;
    }

    public int point(int i, int what) {
        if (!isPoint(i) || what < 0 || what > 2) return BAD;
        if (!onCurve.stands()) return NO;
        if (what == 2) return onCurve.otherOf(i);
        if (i == 0) return NONE;
        return what == 0 ? onCurve.xOf(i) : onCurve.yOf(i);
    }

    public long count(int k) {
        if (k < 1 || k > GREATEST_POWER) return BAD;
        if (!onCurve.stands()) return NO;
        return onCurve.pointsOver(k);
    }

    public int countAll() {
        return onCurve.stands() ? onCurve.countedWide : NO;
    }

    public long share(int i) {
        if (i < 0) return SHARE_BAD;
        if (!onCurve.stands()) return SHARE_NO;
        return i > 2 * onCurve.genus ? SHARE_NONE : onCurve.shareOf(i);
    }

    public long classes() {
        return onCurve.stands() ? onCurve.classMany : NO;
    }

    public long places(int d) {
        if (d < 1 || d > GREATEST_POWER) return BAD;
        if (!onCurve.stands()) return NO;
        return onCurve.placesOf(d);
    }

    // ---- classes

    public int at(int r, int point) {
        if (!isRegister(r) || !isPoint(point)) return BAD;
        if (!onCurve.stands()) return NO;
        adder.takePoint(registers[r], point);
        return 1;
    }

    public int pick(int r, int i) {
        if (!isRegister(r) || i < 0) return BAD;
        if (!onCurve.stands()) return NO;
        if (i >= onCurve.classMany) return BAD;
        listing.ensure();
        listing.fetch(i, registers[r]);
        return 1;
    }

    public int sum(int r, int a, int b) {
        if (!isRegister(r) || !isRegister(a) || !isRegister(b)) return BAD;
        if (!onCurve.stands()) return NO;
        adder.add(registers[r], registers[a], registers[b]);
        return 1;
    }

    public int times(int r, int a, int n) {
        if (!isRegister(r) || !isRegister(a) || n < -MOST_TIMES || n > MOST_TIMES) return BAD;
        if (!onCurve.stands()) return NO;
        adder.multiply(registers[r], registers[a], n);
        return 1;
    }

    public int of(int r, int what, int i) {
        if (!isRegister(r) || what < 0 || what > 1 || i < 0) return BAD;
        if (!onCurve.stands()) return NO;
        Row row = what == 0 ? registers[r].u : registers[r].v;
        return i > row.degree ? NONE : row.get(i);
    }

    public int which(int r) {
        if (!isRegister(r)) return BAD;
        if (!onCurve.stands()) return NO;
        listing.ensure();
        return listing.find(registers[r]);
    }

    public int order(int r) {
        if (!isRegister(r)) return BAD;
        if (!onCurve.stands()) return NO;
        return adder.orderOf(registers[r]);
    }

    public int log(int a, int b) {
        if (!isRegister(a) || !isRegister(b)) return BAD;
        if (!onCurve.stands()) return NO;
        return adder.stepsTo(registers[a], registers[b]);
    }

    public int group(int i) {
        if (i < 0) return BAD;
        if (!onCurve.stands()) return NO;
        listing.ensure();
        theGroup.ensure();
        return theGroup.numberAt(i);
    }

    // ---- rooms

    public int amount(int point, int v) {
        int most = point == 0 ? GREATEST_POLE : GREATEST_AMOUNT;
        if (!isPoint(point) || v < -most || v > most) return AMOUNT_BAD;
        if (!onCurve.stands()) return AMOUNT_NO;
        return theRoom.change(point, v);
    }

    public int room(int what) {
        if (what < 0 || what > 2) return BAD;
        if (!onCurve.stands()) return NO;
        int total = theRoom.total();
        if (what == 1) return total;
        int turnedTotal = 2 * onCurve.genus - 2 - total;
        return theRoom.width(what == 0 ? total : turnedTotal, theRoom.classDegree());
    }

    public int gaps(int point) {
        if (!isPoint(point)) return BAD;
        if (!onCurve.stands()) return NO;
        return theRoom.gapBits(point);
    }

    // ---- codes

    public int code(int m, int what) {
        if (!isPole(m) || what < 0 || what > 1) return BAD;
        if (!onCurve.stands()) return NO;
        return what == 0 ? onCurve.pointMany - 1 : theCode.width(m);
    }

    public int read(int m, int i, int point) {
        if (!isPole(m) || i < 0 || point < 1 || !isPoint(point)) return BAD;
        if (!onCurve.stands()) return NO;
        if (i >= theCode.width(m)) return BAD;
        return theCode.wordAt(i, point - 1);
    }

    public int tell(int j, int v) {
        if (j < 0 || j >= MOST_TOLD || !isNumber(v)) return BAD;
        return theCode.changeTold(j, v);
    }

    public int near(int m, int what) {
        if (!isPole(m) || what < NONE) return BAD;
        if (!onCurve.stands()) return NO;
        int width = theCode.width(m);
        if (theCode.wordMany(width) > MOST_WORDS) return NO;
        if (what >= width) return NONE;
        theCode.seekNear(width);
        return what == NONE ? theCode.nearDistance : theCode.nearDigit(what);
    }

    public int least(int m) {
        if (!isPole(m)) return BAD;
        if (!onCurve.stands()) return NO;
        int width = theCode.width(m);
        if (theCode.wordMany(width) > MOST_WORDS) return NO;
        return width == 0 ? NONE : theCode.leastWeight(width);
    }

    // ---- turns, covers

    public int turns(int what) {
        if (what < NONE) return BAD;
        if (!onCurve.stands()) return NO;
        int many = theTurns.size();
        if (what == NONE) return many;
        return what >= many ? NONE : theTurns.tokenOf(what);
    }

    public int turned(int i, int point) {
        if (i < 0 || !isPoint(point)) return BAD;
        if (!onCurve.stands()) return NO;
        if (i >= theTurns.size()) return BAD;
        return theTurns.move(i, point);
    }

    public int cover(int a, int e) {
        if (!isNumber(a) || e < 0 || e > Cover.GREATEST) return BAD;
        return theCover.change(a, e);
    }

    public int genus(int n) {
        if (!isRootDegree(n)) return BAD;
        return theCover.isWhole(n) ? theCover.genusBy(n) : NO;
    }

    public int above(int n, int a) {
        if (!isRootDegree(n) || a < 0 || a > rows.p) return BAD;
        return theCover.placesAbove(n, a == rows.p ? theCover.total() : theCover.get(a));
    }

    public long digest() {
        long h = 31 * 347L + rows.p;
        if (onCurve.stands()) h = mixRow(h, onCurve.f);
        for (int r = 0; r < REGISTERS; r++) h = mixRow(mixRow(h, registers[r].u), registers[r].v);
        int amounts = onCurve.stands() ? onCurve.pointMany : 1;
        for (int i = 0; i < amounts; i++) h = 31 * h + theRoom.get(i);
        for (int j = 0; j < MOST_TOLD; j++) h = 31 * h + theCode.toldAt(j);
        for (int a = 0; a < rows.p; a++) h = 31 * h + theCover.get(a);
        h = 31 * h + pushedMany;
        for (int i = 0; i < pushedMany && i < MOST_PUSHED; i++) h = 31 * h + pushed[i];
        return h;
    }

    private static long mixRow(long h, Row row) {
        long mixed = h;
        for (int i = 0; i <= row.degree; i++) mixed = 31 * mixed + row.get(i);
        return mixed;
    }

    /** What hangs on the curve: without it the next curve would be answered with the last one's. */
    private void forgetCurve() {
        for (int r = 0; r < REGISTERS; r++) registers[r].makeNought();
        theRoom.clear();
        listing.forget();
        theGroup.forget();
        theCode.forget();
        theTurns.forget();
    }

    private boolean isNumber(int v) {
        return v >= 0 && v < rows.p;
    }

    private static boolean isRegister(int r) {
        return r >= 0 && r < REGISTERS;
    }

    private static boolean isPole(int m) {
        return m >= 0 && m <= GREATEST_POLE;
    }

    private boolean isPoint(int i) {
        return i >= 0 && i < (onCurve.stands() ? onCurve.pointMany : MOST_POINTS);
    }

    /** The document leaves P out of n for every cover, so for `above` as well as for `genus`. */
    private boolean isRootDegree(int n) {
        return n >= 2 && n <= 12 && n % rows.p != 0;
    }

    /** Coefficients, the lowest first; all behind the degree are 0, so that rows can be added in place. */
    private static final class Row {
        /** No row that the curves ask for is of a degree above 6. */
        private static final int WIDE = 8;

        private int[] c = new int[WIDE];
        private int degree = NONE;

        int get(int i) {
            return i < 0 || i >= WIDE ? 0 : c[i];
        }

        void put(int i, int v) {
            if (i < 0 || i >= WIDE) return;
            c[i] = v;
            settle(Math.max(degree, i));
        }

        void clear() {
            Arrays.fill(c, 0);
            degree = NONE;
        }

        void makeOne() {
            clear();
            put(0, 1);
        }

        void copy(Row from) {
            for (int i = 0; i < WIDE; i++) c[i] = from.c[i];
            degree = from.degree;
        }

        void swap(Row with) {
            int[] held = c;
            int heldDegree = degree;
            c = with.c;
            degree = with.degree;
            with.c = held;
            with.degree = heldDegree;
        }

        boolean isLike(Row other) {
            if (degree != other.degree) return false;
            for (int i = 0; i < WIDE; i++) {
                if (c[i] != other.c[i]) return false;
            }
            return true;
        }

        private void settle(int top) {
            int i = top < WIDE ? top : WIDE - 1;
            while (i >= 0 && c[i] == 0) i--;
            degree = i;
        }
    }

    /** Numbers by P and the arithmetic of rows of them. */
    private static final class Rows {
        private int p = FIRST_PRIME;
        private final int[] inverses = new int[GREATEST_PRIME];
        private final Row quotient = new Row();
        private final Row part = new Row();
        private final Row left = new Row();
        private final Row right = new Row();
        private final Row nextPart = new Row();
        private final Row nextLeft = new Row();
        private final Row nextRight = new Row();

        Rows() {
            takePrime(FIRST_PRIME);
        }

        /** P divides everywhere, so nothing below 3 may ever get into it. */
        void takePrime(int prime) {
            if (prime < 3 || prime > GREATEST_PRIME) return;
            p = prime;
            for (int v = 1; v < p && v < GREATEST_PRIME; v++) {
                for (int w = 1; w < p; w++) {
                    if (v * w % p == 1) inverses[v] = w;
                }
            }
        }

        int by(int v) {
            int rest = v % p;
            return rest < 0 ? rest + p : rest;
        }

        int inverse(int v) {
            return v < 0 || v >= GREATEST_PRIME ? 0 : inverses[v];
        }

        int valueAt(Row row, int x) {
            int value = 0;
            for (int i = row.degree; i >= 0; i--) value = (value * x + row.get(i)) % p;
            return value;
        }

        /** out becomes out and factor times a, moved up by shift. */
        void addTimes(Row out, Row a, int factor, int shift) {
            int k = by(factor);
            int top = a.degree + shift;
            if (k == 0 || a.degree < 0 || shift < 0 || top >= Row.WIDE) return;
            for (int i = 0; i <= a.degree; i++) out.c[i + shift] = (out.c[i + shift] + k * a.c[i]) % p;
            out.settle(Math.max(out.degree, top));
        }

        /** out becomes out and sign times a b; out is neither of them. */
        void addProduct(Row out, Row a, Row b, int sign) {
            for (int i = 0; i <= a.degree; i++) addTimes(out, b, sign * a.get(i), i);
        }

        void product(Row out, Row a, Row b) {
            out.clear();
            addProduct(out, a, b, 1);
        }

        void scale(Row row, int factor) {
            addTimes(row, row, factor - 1, 0);
        }

        /** rest becomes what is left of it by the divisor; the quotient stands in `quotient`. */
        void divide(Row rest, Row divisor) {
            quotient.clear();
            if (divisor.degree < 0) return;
            int k = inverse(divisor.get(divisor.degree));
            for (int shift = rest.degree - divisor.degree; shift >= 0; shift--) {
                int q = rest.get(shift + divisor.degree) * k % p;
                quotient.put(shift, q);
                addTimes(rest, divisor, -q, shift);
            }
        }

        /** `part` becomes the greatest part of a and b in common, 1 highest: left a + right b. */
        void findCommon(Row a, Row b) {
            part.copy(a);
            left.makeOne();
            right.clear();
            nextPart.copy(b);
            nextLeft.clear();
            nextRight.makeOne();
            for (int step = 0; step <= Row.WIDE && nextPart.degree >= 0; step++) {
                divide(part, nextPart);
                addProduct(left, quotient, nextLeft, -1);
                addProduct(right, quotient, nextRight, -1);
                part.swap(nextPart);
                left.swap(nextLeft);
                right.swap(nextRight);
            }
            int k = inverse(part.get(part.degree));
            scale(part, k);
            scale(left, k);
            scale(right, k);
        }
    }

    /** The curve itself: f, its points, and the few numbers that tell all its counts. */
    private static final class Curve {
        private final Rows rows;
        private final Row f = new Row();
        private final Row derived = new Row();
        private int genus = 0;
        private int pointMany = 0;
        private final int[] xs = new int[MOST_POINTS];
        private final int[] ys = new int[MOST_POINTS];
        private int countedWide = 0;
        private final int[] wideRoots = new int[GREATEST_PRIME * GREATEST_PRIME];
        private int nonSquare = 0;
        private final long[] shares = new long[GREATEST_POWER + 1];
        private final long[] over = new long[GREATEST_POWER + 1];
        private final long[] found = new long[GREATEST_POWER + 1];
        private int classMany = 0;

        Curve(Rows rows) {
            this.rows = rows;
        }

        boolean stands() {
            return genus > 0;
        }

        void drop() {
            genus = 0;
            pointMany = 0;
            classMany = 0;
            f.clear();
        }

        boolean isFit(Row row) {
            if (row.degree != 3 && row.degree != 5) return false;
            if (row.get(row.degree) != 1) return false;
            derived.clear();
            for (int i = 1; i <= row.degree; i++) derived.put(i - 1, i * row.get(i) % rows.p);
            rows.findCommon(row, derived);
            return rows.part.degree == 0;
        }

        void take(Row row) {
            f.copy(row);
            genus = f.degree / 2;
            listPoints();
            countWide();
            findShares();
        }

        private void listPoints() {
            pointMany = 1;
            for (int x = 0; x < rows.p; x++) {
                int square = rows.valueAt(f, x);
                for (int y = 0; y < rows.p && pointMany < MOST_POINTS; y++) {
                    if (y * y % rows.p != square) continue;
                    xs[pointMany] = x;
                    ys[pointMany] = y;
                    pointMany++;
                }
            }
        }

        /** Numbers of the field of P P are a + b t, held as a + b P, with t t a number that is no square by P. */
        private void countWide() {
            int all = Math.min(rows.p * rows.p, wideRoots.length);
            findNonSquare();
            Arrays.fill(wideRoots, 0);
            for (int y = 0; y < all; y++) {
                int square = wideTimes(y, y);
                if (square >= 0 && square < all) wideRoots[square]++;
            }
            countedWide = 1;
            for (int x = 0; x < all; x++) {
                int square = wideValue(x);
                if (square >= 0 && square < all) countedWide += wideRoots[square];
            }
        }

        private void findNonSquare() {
            int bits = 0;
            for (int y = 0; y < rows.p; y++) bits |= 1 << (y * y % rows.p);
            nonSquare = 0;
            for (int v = rows.p - 1; v > 0; v--) {
                if ((bits >> v & 1) == 0) nonSquare = v;
            }
        }

        private int wideTimes(int v, int w) {
            int p = rows.p;
            int a = v % p, b = v / p, c = w % p, d = w / p;
            return (a * c + b * d * nonSquare) % p + (a * d + b * c) % p * p;
        }

        private int wideValue(int x) {
            int p = rows.p;
            int value = 0;
            for (int i = f.degree; i >= 0; i--) {
                value = wideTimes(value, x);
                value = value - value % p + (value % p + f.get(i)) % p;
            }
            return value;
        }

        private void findShares() {
            int p = rows.p;
            long first = pointMany - 1 - p;
            long second = countedWide - 1 - p * p;
            Arrays.fill(shares, 0L);
            shares[0] = 1;
            shares[1] = first;
            if (genus == 1) {
                shares[2] = p;
            } else {
                shares[2] = (second + first * first) / 2;
                shares[3] = first * p;
                shares[4] = p * p;
            }
            long all = 0;
            for (int i = 0; i <= GREATEST_POWER; i++) all += shares[i];
            classMany = (int) all;
            findOver();
        }

        /** over[k]: by how much N(k) is above 1 and P to the k. */
        private void findOver() {
            for (int k = 1; k <= GREATEST_POWER; k++) {
                over[k] = k * shares[k];
                for (int i = 1; i < k; i++) over[k] -= shares[i] * over[k - i];
            }
        }

        long shareOf(int i) {
            return i < 0 || i > GREATEST_POWER ? 0 : shares[i];
        }

        long pointsOver(int k) {
            if (k < 1 || k > GREATEST_POWER) return 0;
            long power = 1;
            for (int i = 0; i < k; i++) power *= rows.p;
            return 1 + power + over[k];
        }

        long placesOf(int d) {
            if (d < 1 || d > GREATEST_POWER) return 0;
            for (int k = 1; k <= d; k++) {
                long rest = pointsOver(k);
                for (int i = 1; i < k; i++) {
                    if (k % i == 0) rest -= i * found[i];
                }
                found[k] = rest / k;
            }
            return found[d];
        }

        int xOf(int point) {
            return point < 1 || point >= MOST_POINTS ? 0 : xs[point];
        }

        int yOf(int point) {
            return point < 1 || point >= MOST_POINTS ? 0 : ys[point];
        }

        int otherOf(int point) {
            return point == 0 ? 0 : numberOf(xOf(point), rows.by(-yOf(point)));
        }

        int numberOf(int x, int y) {
            for (int i = 1; i < pointMany && i < MOST_POINTS; i++) {
                if (xs[i] == x && ys[i] == y) return i;
            }
            return 0;
        }
    }

    /** A class of places, told by its two rows. */
    private static final class Pair {
        private final Row u = new Row();
        private final Row v = new Row();

        Pair() {
            u.makeOne();
        }

        void makeNought() {
            u.makeOne();
            v.clear();
        }

        void copy(Pair from) {
            u.copy(from.u);
            v.copy(from.v);
        }

        boolean isNought() {
            return u.degree == 0;
        }

        boolean isLike(Pair other) {
            return u.isLike(other.u) && v.isLike(other.v);
        }
    }

    /** Sums of classes. */
    private static final class Adder {
        private final Rows rows;
        private final Curve onCurve;
        private final Row u = new Row();
        private final Row v = new Row();
        private final Row first = new Row();
        private final Row second = new Row();
        private final Row common = new Row();
        private final Row work = new Row();
        private final Row more = new Row();
        private final Pair base = new Pair();
        private final Pair walked = new Pair();

        Adder(Rows rows, Curve onCurve) {
            this.rows = rows;
            this.onCurve = onCurve;
        }

        void takePoint(Pair out, int point) {
            out.makeNought();
            if (point == 0) return;
            out.u.put(1, 1);
            out.u.put(0, rows.by(-onCurve.xOf(point)));
            out.v.put(0, onCurve.yOf(point));
        }

        void turnAbout(Pair pair) {
            rows.scale(pair.v, -1);
        }

        /** out may be a or b: what they hold is used up before out is written. */
        void add(Pair out, Pair a, Pair b) {
            rows.findCommon(a.u, b.u);
            common.copy(rows.part);
            rows.product(first, rows.left, a.u);
            rows.product(second, rows.right, b.u);
            work.copy(a.v);
            rows.addTimes(work, b.v, 1, 0);
            // the common part of the u's goes last: being 1 most often, it ends the search in one step
            rows.findCommon(work, common);
            common.copy(rows.part);
            work.copy(onCurve.f);
            rows.addProduct(work, a.v, b.v, 1);
            rows.product(v, rows.left, work);
            rows.product(work, first, b.v);
            rows.addProduct(work, second, a.v, 1);
            rows.addProduct(v, rows.right, work, 1);
            rows.product(u, a.u, b.u);
            takeQuotient(u, common);
            takeQuotient(u, common);
            takeQuotient(v, common);
            rows.divide(v, u);
            lower();
            out.u.copy(u);
            out.v.copy(v);
        }

        private void takeQuotient(Row row, Row divisor) {
            rows.divide(row, divisor);
            row.copy(rows.quotient);
        }

        /** u is of degree 4 at most and every step takes one off at least. */
        private void lower() {
            for (int step = 0; step < Row.WIDE && u.degree > onCurve.genus; step++) {
                more.copy(onCurve.f);
                rows.addProduct(more, v, v, -1);
                rows.divide(more, u);
                u.copy(rows.quotient);
                rows.scale(u, rows.inverse(u.get(u.degree)));
                rows.scale(v, -1);
                rows.divide(v, u);
            }
        }

        void multiply(Pair out, Pair a, int n) {
            base.copy(a);
            if (n < 0) turnAbout(base);
            int many = Math.abs(n);
            int top = 0;
            while (top < 30 && many >> top > 1) top++;
            out.makeNought();
            for (int bit = top; bit >= 0; bit--) {
                add(out, out, out);
                if ((many >> bit & 1) == 1) add(out, out, base);
            }
        }

        /** The class number is a round for every class, so only its parts have to be tried. */
        int orderOf(Pair pair) {
            int n = onCurve.classMany;
            for (int q = 2; q <= onCurve.classMany; q++) {
                while (n >= q && n % q == 0) {
                    multiply(walked, pair, n / q);
                    if (!walked.isNought()) break;
                    n /= q;
                }
            }
            return n;
        }

        int stepsTo(Pair from, Pair to) {
            walked.makeNought();
            for (int n = 0; n < onCurve.classMany; n++) {
                if (walked.isLike(to)) return n;
                add(walked, walked, from);
                if (walked.isNought()) return NONE;
            }
            return NONE;
        }
    }

    /** All classes in their order, each as one number: degree of u, coefficients of u, then of v, as digits. */
    private static final class Listing {
        /** (1 + the root of P) to the 4 is the most that a class number can be: below 450 by 13. */
        private static final int MOST = 450;

        private final Rows rows;
        private final Curve onCurve;
        private final int[] tokens = new int[MOST];
        private int many = 0;
        private final Row line = new Row();
        private final Row rest = new Row();

        Listing(Rows rows, Curve onCurve) {
            this.rows = rows;
            this.onCurve = onCurve;
        }

        void forget() {
            many = 0;
        }

        /** Called ahead of fetch and find: a list is made for those curves alone that are asked for it. */
        void ensure() {
            if (many > 0) return;
            keep(0);
            listPoints();
            if (onCurve.genus == 2) listSquares();
        }

        private void keep(int token) {
            if (many >= MOST) return;
            tokens[many] = token;
            many++;
        }

        private int degreeWeight() {
            return rows.p * rows.p * rows.p * rows.p;
        }

        private void listPoints() {
            int p = rows.p;
            for (int u0 = 0; u0 < p; u0++) {
                int square = rows.valueAt(onCurve.f, (p - u0) % p);
                for (int v0 = 0; v0 < p; v0++) {
                    if (v0 * v0 % p == square) keep(degreeWeight() + u0 * p + v0);
                }
            }
        }

        private void listSquares() {
            for (int u1 = 0; u1 < rows.p; u1++) {
                for (int u0 = 0; u0 < rows.p; u0++) listRoots(u1, u0);
            }
        }

        /** With x x = -u1 x - u0 the square of v1 x + v0 is to be what is left of f. */
        private void listRoots(int u1, int u0) {
            int p = rows.p;
            line.clear();
            line.put(2, 1);
            line.put(1, u1);
            line.put(0, u0);
            rest.copy(onCurve.f);
            rows.divide(rest, line);
            int token = 2 * degreeWeight() + (u1 * p + u0) * p * p;
            for (int v1 = 0; v1 < p; v1++) {
                int high = rows.by(rest.get(1) + v1 * v1 * u1);
                int low = rows.by(rest.get(0) + v1 * v1 * u0);
                for (int v0 = 0; v0 < p; v0++) {
                    if (2 * v1 * v0 % p == high && v0 * v0 % p == low) keep(token + v1 * p + v0);
                }
            }
        }

        void fetch(int i, Pair out) {
            out.makeNought();
            if (i < 1 || i >= many || i >= MOST) return;
            int p = rows.p;
            int degree = tokens[i] / degreeWeight();
            int digits = tokens[i] % degreeWeight();
            out.u.put(degree, 1);
            for (int k = 0; k < degree; k++) {
                out.v.put(k, digits % p);
                digits /= p;
            }
            for (int k = 0; k < degree; k++) {
                out.u.put(k, digits % p);
                digits /= p;
            }
        }

        int find(Pair pair) {
            int token = tokenOf(pair);
            int low = 0, high = Math.min(many, MOST) - 1;
            for (int step = 0; step < 32 && low < high; step++) {
                int middle = (low + high) / 2;
                if (tokens[middle] < token) low = middle + 1;
                else high = middle;
            }
            return low;
        }

        private int tokenOf(Pair pair) {
            int degree = pair.u.degree;
            int digits = 0;
            for (int k = degree - 1; k >= 0; k--) digits = digits * rows.p + pair.u.get(k);
            for (int k = degree - 1; k >= 0; k--) digits = digits * rows.p + pair.v.get(k);
            return degree * degreeWeight() + digits;
        }
    }

    /** How the group of classes is put together. */
    private static final class Group {
        private final Adder adder;
        private final Listing listing;
        private final int[] orders = new int[Listing.MOST];
        private final int[] path = new int[Listing.MOST];
        private final int[] numbers = new int[8];
        private int many = 0;
        private boolean found = false;
        private final Pair start = new Pair();
        private final Pair walked = new Pair();

        Group(Adder adder, Listing listing) {
            this.adder = adder;
            this.listing = listing;
        }

        void forget() {
            found = false;
        }

        /** The numbers are found the greatest first and told the least first. */
        int numberAt(int i) {
            int from = many - 1 - i;
            return i < 0 || from < 0 || from >= numbers.length ? NONE : numbers[from];
        }

        /** One round gives the orders of all its classes, so that few classes have to be walked. */
        void ensure() {
            if (found) return;
            found = true;
            Arrays.fill(orders, 0);
            for (int i = 0; i < listing.many && i < orders.length; i++) {
                if (orders[i] == 0) walkRound(i);
            }
            findNumbers();
        }

        private void findNumbers() {
            many = 0;
            Arrays.fill(numbers, 1);
            int rest = listing.many;
            for (int q = 2; q <= listing.many; q++) {
                if (rest % q != 0) continue;
                takeRounds(q);
                while (rest > 1 && rest % q == 0) rest /= q;
            }
        }

        private void walkRound(int i) {
            listing.fetch(i, start);
            walked.copy(start);
            int n = 0;
            while (n < path.length - 1 && !walked.isNought()) {
                path[n] = listing.find(walked);
                n++;
                adder.add(walked, walked, start);
            }
            path[n] = 0;
            n++;
            for (int k = 1; k <= n; k++) {
                int at = path[k - 1];
                if (at >= 0 && at < orders.length) orders[at] = n / greatestPart(n, k);
            }
        }

        /** q to so many as classes that a power of q brings to nought tell how many numbers have that power in them. */
        private void takeRounds(int q) {
            int before = 1;
            for (int power = q; power <= listing.many; power *= q) {
                int killed = 0;
                for (int i = 0; i < listing.many && i < orders.length; i++) {
                    if (orders[i] > 0 && power % orders[i] == 0) killed++;
                }
                int ratio = killed / before;
                int place = 0;
                while (ratio >= q && place < numbers.length) {
                    numbers[place] *= q;
                    place++;
                    ratio /= q;
                }
                many = Math.max(many, place);
                before = Math.max(killed, 1);
            }
        }
    }

    /** Rooms of functions. */
    private static final class Room {
        private final Adder adder;
        private final Curve onCurve;
        private final int[] amounts = new int[MOST_POINTS];
        private final Pair single = new Pair();
        private final Pair all = new Pair();

        Room(Adder adder, Curve onCurve) {
            this.adder = adder;
            this.onCurve = onCurve;
        }

        void clear() {
            Arrays.fill(amounts, 0);
        }

        int get(int point) {
            return point < 0 || point >= MOST_POINTS ? 0 : amounts[point];
        }

        int change(int point, int v) {
            int was = get(point);
            if (point >= 0 && point < MOST_POINTS) amounts[point] = v;
            return was;
        }

        int total() {
            int sum = 0;
            for (int i = 0; i < MOST_POINTS; i++) sum += amounts[i];
            return sum;
        }

        /** The degree of u of the class of all amounts; it is the same for the amounts turned about. */
        int classDegree() {
            all.makeNought();
            for (int i = 1; i < onCurve.pointMany && i < MOST_POINTS; i++) {
                if (amounts[i] == 0) continue;
                adder.takePoint(single, i);
                if (amounts[i] < 0) adder.turnAbout(single);
                for (int k = Math.abs(amounts[i]); k > 0; k--) adder.add(all, all, single);
            }
            return all.u.degree;
        }

        /**
         * A room is as wide as that of its reduced class u, v with the rest of the total at the end;
         * by the norm u this is the room of all a u + b (y + v) with a pole of total and u's degree
         * at most, and a u, b (y + v) have poles even and odd, so that none cancels another.
         */
        int width(int total, int degree) {
            return evens(total - degree) + evens(total + degree - 2 * onCurve.genus - 1);
        }

        private static int evens(int most) {
            return most < 0 ? 0 : most / 2 + 1;
        }

        int gapBits(int point) {
            int bits = 0;
            int before = 1;
            adder.takePoint(single, point);
            all.makeNought();
            for (int n = 1; n <= 2 * onCurve.genus; n++) {
                adder.add(all, all, single);
                int now = width(n, all.u.degree);
                if (now == before) bits |= 1 << (n - 1);
                before = now;
            }
            return bits;
        }
    }

    /** Codes: the functions left, found once for the greatest m, since a lesser m has the first of them. */
    private static final class Code {
        private final Rows rows;
        private final Curve onCurve;
        private final int[] told = new int[MOST_TOLD];
        private final int[][] words = new int[MOST_TOLD][MOST_TOLD];
        private final int[][] cleared = new int[MOST_TOLD][MOST_TOLD];
        private final int[] poles = new int[MOST_TOLD];
        private final int[] pivots = new int[MOST_TOLD];
        private int left = 0;
        private int length = 0;
        private boolean found = false;
        private final int[] digits = new int[MOST_TOLD];
        private final int[] apart = new int[MOST_TOLD];
        private final int[] tally = new int[GREATEST_PRIME];
        private int nearWidth = NONE;
        private int nearDistance = 0;
        private final int[] nearDigits = new int[MOST_TOLD];

        Code(Rows rows, Curve onCurve) {
            this.rows = rows;
            this.onCurve = onCurve;
        }

        void forget() {
            found = false;
            nearWidth = NONE;
        }

        void clearTold() {
            Arrays.fill(told, 0);
            nearWidth = NONE;
        }

        int toldAt(int j) {
            return j < 0 || j >= MOST_TOLD ? 0 : told[j];
        }

        int changeTold(int j, int v) {
            int was = toldAt(j);
            if (j >= 0 && j < MOST_TOLD) told[j] = v;
            nearWidth = NONE;
            return was;
        }

        int width(int m) {
            if (!found) findLeft();
            int many = 0;
            while (many < left && many < MOST_TOLD && poles[many] <= m) many++;
            return many;
        }

        int wordAt(int i, int place) {
            if (i < 0 || i >= MOST_TOLD || place < 0 || place >= MOST_TOLD) return 0;
            return words[i][place];
        }

        int nearDigit(int i) {
            return i < 0 || i >= MOST_TOLD ? 0 : nearDigits[i];
        }

        int wordMany(int width) {
            int many = 1;
            for (int i = 0; i < width && many <= MOST_WORDS; i++) many *= rows.p;
            return many;
        }

        private void findLeft() {
            found = true;
            left = 0;
            length = Math.min(onCurve.pointMany - 1, MOST_TOLD);
            int odd = onCurve.f.degree;
            for (int pole = 0; pole <= GREATEST_POLE && left < length; pole++) {
                if (pole % 2 == 1 && pole < odd) continue;
                readOff(pole % 2 == 0 ? pole / 2 : (pole - odd) / 2, pole % 2 == 1);
                clearByLeft();
                keepIfLeft(pole);
            }
        }

        private void readOff(int power, boolean withY) {
            for (int j = 0; j < length; j++) {
                int value = withY ? onCurve.yOf(j + 1) : 1;
                for (int k = 0; k < power; k++) value = value * onCurve.xOf(j + 1) % rows.p;
                words[left][j] = value;
            }
        }

        private void clearByLeft() {
            int[] row = cleared[left];
            for (int j = 0; j < length; j++) row[j] = words[left][j];
            for (int i = 0; i < left; i++) {
                int pivot = pivots[i];
                if (pivot < 0 || pivot >= length) continue;
                int k = rows.p - row[pivot];
                for (int j = 0; j < length; j++) row[j] = (row[j] + k * cleared[i][j]) % rows.p;
            }
        }

        private void keepIfLeft(int pole) {
            int[] row = cleared[left];
            int pivot = 0;
            while (pivot < length && row[pivot] == 0) pivot++;
            if (pivot >= length) return;
            int k = rows.inverse(row[pivot]);
            for (int j = 0; j < length; j++) row[j] = row[j] * k % rows.p;
            pivots[left] = pivot;
            poles[left] = pole;
            left++;
        }

        /**
         * Function 0 is the number 1: of the words that differ by it alone the nearest is told by
         * what the told row less the others' word is most often, so only the others are gone over.
         */
        void seekNear(int width) {
            if (nearWidth == width) return;
            nearWidth = width;
            nearDistance = 0;
            if (width < 1) return;
            nearDistance = length + 1;
            for (int j = 0; j < length; j++) apart[j] = told[j];
            Arrays.fill(digits, 0);
            for (int n = wordMany(width - 1); n > 0; n--) {
                int often = mostOften();
                if (length - tally[often] < nearDistance) {
                    nearDistance = length - tally[often];
                    digits[0] = often;
                    for (int i = 0; i < width; i++) nearDigits[i] = digits[i];
                }
                stepOthers(width);
            }
        }

        int leastWeight(int width) {
            int least = length;
            Arrays.fill(apart, 0);
            Arrays.fill(digits, 0);
            for (int n = wordMany(width - 1); n > 1; n--) {
                stepOthers(width);
                least = Math.min(least, length - tally[mostOften()]);
            }
            return least;
        }

        private int mostOften() {
            Arrays.fill(tally, 0);
            for (int j = 0; j < length; j++) {
                int v = apart[j];
                if (v >= 0 && v < GREATEST_PRIME) tally[v]++;
            }
            int often = 0;
            for (int v = 1; v < rows.p; v++) {
                if (tally[v] > tally[often]) often = v;
            }
            return often;
        }

        /** P steps of one digit bring its part of the word back to nought by themselves. */
        private void stepOthers(int width) {
            for (int i = 1; i < width; i++) {
                int[] word = words[i];
                for (int j = 0; j < length; j++) {
                    int v = apart[j] - word[j];
                    apart[j] = v < 0 ? v + rows.p : v;
                }
                digits[i]++;
                if (digits[i] < rows.p) return;
                digits[i] = 0;
            }
        }
    }

    /** Turns of the curve into itself. */
    private static final class Turns {
        /** For each a and b there are two c at most. */
        private static final int MOST = 2 * GREATEST_PRIME * GREATEST_PRIME;

        private final Rows rows;
        private final Curve onCurve;
        private final int[] tokens = new int[MOST];
        private int many = 0;
        private boolean found = false;
        private final Row moved = new Row();
        private final Row held = new Row();

        Turns(Rows rows, Curve onCurve) {
            this.rows = rows;
            this.onCurve = onCurve;
        }

        void forget() {
            found = false;
        }

        int size() {
            if (!found) findAll();
            return many;
        }

        int tokenOf(int i) {
            return i < 0 || i >= MOST ? 0 : tokens[i];
        }

        private void findAll() {
            found = true;
            many = 0;
            for (int a = 1; a < rows.p; a++) {
                for (int b = 0; b < rows.p; b++) findAt(a, b);
            }
        }

        private void findAt(int a, int b) {
            moved.clear();
            for (int i = onCurve.f.degree; i >= 0; i--) {
                held.copy(moved);
                rows.scale(moved, b);
                rows.addTimes(moved, held, a, 1);
                moved.put(0, (moved.get(0) + onCurve.f.get(i)) % rows.p);
            }
            for (int c = 1; c < rows.p; c++) {
                held.copy(onCurve.f);
                rows.scale(held, c * c);
                if (held.isLike(moved) && many < MOST) {
                    tokens[many] = 10000 * a + 100 * b + c;
                    many++;
                }
            }
        }

        int move(int i, int point) {
            if (point == 0) return 0;
            int token = tokenOf(i);
            int x = token / 10000 * onCurve.xOf(point) + token / 100 % 100;
            return onCurve.numberOf(x % rows.p, token % 100 * onCurve.yOf(point) % rows.p);
        }
    }

    /** Covers of the line; they hang on P alone, not on the curve. */
    private static final class Cover {
        private static final int GREATEST = 20;

        private final int[] amounts = new int[GREATEST_PRIME];

        void clear() {
            Arrays.fill(amounts, 0);
        }

        int get(int a) {
            return a < 0 || a >= GREATEST_PRIME ? 0 : amounts[a];
        }

        int change(int a, int e) {
            int was = get(a);
            if (a >= 0 && a < GREATEST_PRIME) amounts[a] = e;
            return was;
        }

        int total() {
            int sum = 0;
            for (int a = 0; a < GREATEST_PRIME; a++) sum += amounts[a];
            return sum;
        }

        int placesAbove(int n, int e) {
            return greatestPart(n, e);
        }

        boolean isWhole(int n) {
            int part = n;
            for (int a = 0; a < GREATEST_PRIME; a++) part = greatestPart(part, amounts[a]);
            return part == 1;
        }

        int genusBy(int n) {
            int twice = 2 - 2 * n + n - greatestPart(n, total());
            for (int a = 0; a < GREATEST_PRIME; a++) twice += n - greatestPart(n, amounts[a]);
            return twice / 2;
        }
    }

    private static int greatestPart(int a, int b) {
        int part = a, rest = b;
        for (int step = 0; step < 64 && rest != 0; step++) {
            int next = part % rest;
            part = rest;
            rest = next;
        }
        return part;
    }
}
