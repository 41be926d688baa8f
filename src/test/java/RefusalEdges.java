import java.util.function.ToLongFunction;

/** The sentences that bear on every call: what is refused, in which order, and that nothing is changed by it. */
public final class RefusalEdges {
    private static final int BAD = Check.BAD, NO = Check.NO, FULL = Check.FULL;

    private RefusalEdges() {
    }

    private static void refused(String call, CurveRooms x, ToLongFunction<CurveRooms> made, long want) {
        Edges.refused(call, x, () -> made.applyAsLong(x), want);
    }

    /** BAD in every state: ahead of NO without a curve, and with one. */
    private static void bad(String call, long want, ToLongFunction<CurveRooms> made) {
        refused(call + " without a curve", new CurveRooms(), made, want);
        refused(call + " with a curve", Edges.full(), made, want);
    }

    @Sentence(promise = 34, says = "Refused, changing nothing, the first of: BAD -2 a number is not as told; NO -3 as told; FULL -4.")
    static void p34EveryNumberNotAsTold() {
        for (int v : new int[] {-1, Check.LEAST, Check.GREATEST}) {
            bad("prime", BAD, x -> x.prime(v));
            bad("push", BAD, x -> x.push(v));
            bad("point, point", BAD, x -> x.point(v, 0));
            bad("point, what", BAD, x -> x.point(0, v));
            bad("count", BAD, x -> x.count(v));
            bad("places", BAD, x -> x.places(v));
            bad("at, r", BAD, x -> x.at(v, 0));
            bad("at, point", BAD, x -> x.at(0, v));
            bad("pick, r", BAD, x -> x.pick(v, 0));
            bad("sum, r", BAD, x -> x.sum(v, 0, 0));
            bad("sum, a", BAD, x -> x.sum(0, v, 0));
            bad("sum, b", BAD, x -> x.sum(0, 0, v));
            bad("times, r", BAD, x -> x.times(v, 0, 1));
            bad("times, a", BAD, x -> x.times(0, v, 1));
            bad("of, r", BAD, x -> x.of(v, 0, 0));
            bad("of, what", BAD, x -> x.of(0, v, 0));
            bad("which", BAD, x -> x.which(v));
            bad("order", BAD, x -> x.order(v));
            bad("log, a", BAD, x -> x.log(v, 0));
            bad("log, b", BAD, x -> x.log(0, v));
            bad("amount, point", -100, x -> x.amount(v, 0));
            bad("room", BAD, x -> x.room(v));
            bad("gaps", BAD, x -> x.gaps(v));
            bad("code, m", BAD, x -> x.code(v, 0));
            bad("code, what", BAD, x -> x.code(0, v));
            bad("read, m", BAD, x -> x.read(v, 0, 1));
            bad("read, point", BAD, x -> x.read(0, 0, v));
            bad("tell, j", BAD, x -> x.tell(v, 0));
            bad("tell, v", BAD, x -> x.tell(0, v));
            bad("near, m", BAD, x -> x.near(v, 0));
            bad("least", BAD, x -> x.least(v));
            bad("turned, point", BAD, x -> x.turned(0, v));
            bad("cover, a", BAD, x -> x.cover(v, 0));
            bad("cover, e", BAD, x -> x.cover(0, v));
            bad("genus", BAD, x -> x.genus(v));
            bad("above, n", BAD, x -> x.above(v, 0));
            bad("above, a", BAD, x -> x.above(2, v));
        }
    }

    @Sentence(promise = 34, says = "BAD -2 a number is not as told;")
    static void p34BelowNought() {
        for (int v : new int[] {-1, Check.LEAST}) {
            bad("share", -2000000000L, x -> x.share(v));
            bad("pick, i", BAD, x -> x.pick(0, v));
            bad("of, i", BAD, x -> x.of(0, 0, v));
            bad("group", BAD, x -> x.group(v));
            bad("read, i", BAD, x -> x.read(0, v, 1));
            bad("turned, i", BAD, x -> x.turned(v, 0));
        }
        for (int v : new int[] {-2, Check.LEAST}) {
            bad("near, what", BAD, x -> x.near(0, v));
            bad("turns", BAD, x -> x.turns(v));
        }
    }

    @Sentence(promise = 34, says = "Without a CURVE all that asks for one is NO.")
    static void p34WithoutCurve() {
        CurveRooms x = new CurveRooms();
        refused("points", x, CurveRooms::points, NO);
        refused("point", x, y -> y.point(0, 0), NO);
        refused("count", x, y -> y.count(1), NO);
        refused("countAll", x, CurveRooms::countAll, NO);
        refused("share", x, y -> y.share(0), -2100000000L);
        refused("classes", x, CurveRooms::classes, NO);
        refused("places", x, y -> y.places(1), NO);
        refused("at", x, y -> y.at(0, 0), NO);
        refused("pick", x, y -> y.pick(0, 0), NO);
        refused("sum", x, y -> y.sum(0, 0, 0), NO);
        refused("times", x, y -> y.times(0, 0, 0), NO);
        refused("of", x, y -> y.of(0, 0, 0), NO);
        refused("which", x, y -> y.which(0), NO);
        refused("order", x, y -> y.order(0), NO);
        refused("log", x, y -> y.log(0, 0), NO);
        refused("group", x, y -> y.group(0), NO);
        refused("amount", x, y -> y.amount(0, 0), -200);
        refused("room", x, y -> y.room(1), NO);
        refused("gaps", x, y -> y.gaps(0), NO);
        refused("code", x, y -> y.code(0, 0), NO);
        refused("read", x, y -> y.read(0, 0, 1), NO);
        refused("near", x, y -> y.near(0, -1), NO);
        refused("least", x, y -> y.least(0), NO);
        refused("turns", x, y -> y.turns(-1), NO);
        refused("turned", x, y -> y.turned(0, 0), NO);
    }

    @Sentence(promise = 34, says = "Without a CURVE all that asks for one is NO.")
    static void p34WhatAsksForNone() {
        CurveRooms x = new CurveRooms();
        Check.due("push", x.push(1), 1);
        Check.due("tell", x.tell(0, 1), 0);
        Check.due("cover", x.cover(0, 1), 0);
        Check.due("genus", x.genus(2), 0);
        Check.due("above", x.above(2, 0), 1);
        Check.due("prime", x.prime(5), 1);
    }

    @Sentence(promise = 34, says = "Without a CURVE all that asks for one is NO.")
    static void p34CurveIsGoneWithThePrime() {
        CurveRooms x = Edges.full();
        x.which(0);
        x.group(0);
        x.near(4, 0);
        x.turns(0);
        x.prime(7);
        refused("points", x, CurveRooms::points, NO);
        refused("which", x, y -> y.which(0), NO);
        refused("group", x, y -> y.group(0), NO);
        refused("near", x, y -> y.near(4, 0), NO);
        refused("turns", x, y -> y.turns(0), NO);
        refused("room", x, y -> y.room(1), NO);
        refused("point 11 is none of 0 .. 26 no more", x, y -> y.point(11, 0), NO);
        refused("class 81 either", x, y -> y.pick(0, 81), NO);
    }

    @Sentence(promise = 34, says = "the first of: BAD -2 a number is not as told; NO -3 as told; FULL -4.")
    static void p34TheFirstOf() {
        CurveRooms none = new CurveRooms(), full = Edges.full();
        for (int v : new int[] {1, 2, 3}) full.push(v);
        refused("BAD ahead of FULL", full, x -> x.push(7), BAD);
        refused("FULL", full, x -> x.push(6), FULL);
        refused("BAD ahead of NO", none, x -> x.count(7), BAD);
        refused("NO", none, x -> x.count(6), NO);
        refused("BAD ahead of NO: words", full, x -> x.near(30, -2), BAD);
        refused("NO: words", full, x -> x.near(30, -1), NO);
        refused("BAD ahead of NO: n and all e", none, x -> x.genus(7), BAD);
        refused("NO: n and all e", none, x -> x.genus(6), NO);
    }

    @Sentence(promise = 34, says = "the first of: BAD -2 a number is not as told;")
    static void p34TwoNotAsTold() {
        bad("point", BAD, x -> x.point(27, 3));
        bad("at", BAD, x -> x.at(6, 27));
        bad("sum", BAD, x -> x.sum(6, -1, 6));
        bad("times", BAD, x -> x.times(6, -1, 100001));
        bad("of", BAD, x -> x.of(6, 2, -1));
        bad("log", BAD, x -> x.log(6, -1));
        bad("amount", -100, x -> x.amount(27, 31));
        bad("code", BAD, x -> x.code(31, 2));
        bad("read", BAD, x -> x.read(31, 99, 27));
        bad("tell", BAD, x -> x.tell(26, 7));
        bad("near", BAD, x -> x.near(31, -2));
        bad("turned", BAD, x -> x.turned(99, 27));
        bad("cover", BAD, x -> x.cover(7, 21));
        bad("above", BAD, x -> x.above(13, 8));
    }

    public static void main(String[] args) throws IllegalAccessException {
        Edges.run(RefusalEdges.class);
    }
}
