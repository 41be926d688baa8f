/** Promises 21 to 23: rooms of functions and gaps. */
public final class RoomPromises {
    private static void withoutCurve() {
        CurveRooms x = new CurveRooms();
        Check.due("amount(0, 30)", x.amount(0, 30), -200);
        Check.due("amount(26, 4)", x.amount(26, 4), -200);
        Check.due("amount(27, 4)", x.amount(27, 4), -100);
        Check.due("amount(26, 5)", x.amount(26, 5), -100);
        Check.due("room(2)", x.room(2), Check.NO);
        Check.due("room(3)", x.room(3), Check.BAD);
        Check.due("gaps(26)", x.gaps(26), Check.NO);
        Check.due("gaps(27)", x.gaps(27), Check.BAD);
    }

    private static void amounts() {
        CurveRooms x = Check.onCurve(7, 1, 1, 0, 1);
        Check.due("amount(0, 30)", x.amount(0, 30), 0);
        Check.due("amount(0, 31)", x.amount(0, 31), -100);
        Check.due("amount(0, -31)", x.amount(0, -31), -100);
        Check.due("amount(0, -30)", x.amount(0, -30), 30);
        Check.due("amount(4, 4)", x.amount(4, 4), 0);
        Check.due("amount(4, 5)", x.amount(4, 5), -100);
        Check.due("amount(4, -5)", x.amount(4, -5), -100);
        Check.due("amount(4, -4)", x.amount(4, -4), 4);
        Check.due("amount(5, 0)", x.amount(5, 0), -100);
        Check.due("amount(-1, 0)", x.amount(-1, 0), -100);
        Check.due("total", x.room(1), -34);
        Check.due("amount(0, 0)", x.amount(0, 0), -30);
        Check.due("total", x.room(1), -4);
        Check.due("room(-1)", x.room(-1), Check.BAD);
        Check.due("room(greatest)", x.room(Check.GREATEST), Check.BAD);
        Check.due("gaps(5)", x.gaps(5), Check.BAD);
        Check.due("gaps(-1)", x.gaps(-1), Check.BAD);
    }

    /** With amounts at the end alone the functions are 1, x, .., y, x y, .. themselves. */
    private static void atTheEnd(CurveRooms x, int degree) {
        for (int m = -30; m <= 30; m++) {
            x.amount(0, m);
            int want = 0;
            for (int pole = 0; pole <= m; pole++) want += pole % 2 == 0 || pole >= degree ? 1 : 0;
            Check.due("width by " + m, x.room(0), want);
            Check.due("total by " + m, x.room(1), m);
        }
        x.amount(0, 0);
    }

    /** 1 by x less x0, y less y0 by it, and noughts of x less x0: rooms that can be told by hand. */
    private static void byHand() {
        CurveRooms x = Check.onCurve(13, 0, 1, 0, 0, 0, 1);
        Check.due("y of 1 is 0", x.point(1, 1), 0);
        x.amount(1, 2);
        Check.due("1 and 1 by x", x.room(0), 2);
        x.amount(0, -2);
        Check.due("1 by x alone", x.room(0), 1);
        x.amount(0, -3);
        Check.due("none", x.room(0), 0);
        x.amount(0, 0);
        x.amount(1, 0);
        x.amount(3, 1);
        x.amount(x.point(3, 2), 1);
        Check.due("1 and 1 by x less x0", x.room(0), 2);
        x.amount(x.point(3, 2), 0);
        x.amount(3, 2);
        Check.due("1 alone", x.room(0), 1);
        x.amount(3, -1);
        x.amount(0, 2);
        Check.due("x less x0", x.room(0), 1);
        x.amount(0, 1);
        Check.due("none", x.room(0), 0);
    }

    /** The width less that of what is turned about is the total and 1 less the genus. */
    private static void turnedAbout(int p, int... row) {
        int genus = row.length / 2 - 1;
        int points = Check.onCurve(p, row).points();
        for (int round = 0; round < 60; round++) {
            CurveRooms x = Check.onCurve(p, row);
            for (int i = 1; i < points; i++) x.amount(i, (round * 31 + i * i * 7 + i * round) % 9 - 4);
            x.amount(0, 0);
            int rest = -x.room(1);
            x.amount(0, Math.max(-30, Math.min(30, rest + round % 5 - 1)));
            int total = x.room(1);
            int width = x.room(0), other = x.room(2);
            Check.due("width less the other", width - other, total + 1 - genus);
            Check.holds("widths", width >= 0 && other >= 0);
            if (total < 0) Check.due("below 0", width, 0);
            if (total > 2 * genus - 2) Check.due("above", other, 0);
        }
    }

    /** By genus 1 a line through two points has one more: only with that one is there a function of total 0. */
    private static void lines(int p, int... row) {
        int points = Check.onCurve(p, row).points();
        for (int i = 1; i < points; i++) {
            for (int j = i + 1; j < points; j++) {
                CurveRooms x = Check.onCurve(p, row);
                int third = x.point(thirdOnLine(x, i, j, p, row[2]), 2);
                for (int k = 1; k < points; k++) {
                    if (k == i || k == j) continue;
                    x.amount(i, 1);
                    x.amount(j, 1);
                    x.amount(k, -1);
                    x.amount(0, -1);
                    Check.due("width by " + i + " " + j + " " + k, x.room(0), k == third ? 1 : 0);
                    Check.due("turned about", x.room(2), k == third ? 1 : 0);
                    x.amount(k, 0);
                }
                x.amount(0, -2);
                Check.due("width by " + i + " " + j, x.room(0), third == 0 ? 1 : 0);
            }
        }
    }

    private static int thirdOnLine(CurveRooms x, int i, int j, int p, int square) {
        int x1 = x.point(i, 0), y1 = x.point(i, 1), x2 = x.point(j, 0), y2 = x.point(j, 1);
        if (x1 == x2) return 0;
        int slope = 0;
        while ((slope * (x2 - x1) - (y2 - y1)) % p != 0) slope++;
        int x3 = Math.floorMod(slope * slope - square - x1 - x2, p);
        int y3 = Math.floorMod(y1 + slope * (x3 - x1), p);
        for (int k = 1; k < x.points(); k++) {
            if (x.point(k, 0) == x3 && x.point(k, 1) == y3) return k;
        }
        return Check.BAD;
    }

    private static void gapsOf(int p, int... row) {
        CurveRooms x = Check.onCurve(p, row);
        boolean wide = row.length == 6;
        Check.due("gaps of the end", x.gaps(0), wide ? 5 : 1);
        for (int i = 1; i < x.points(); i++) {
            Check.due("gaps of " + i, x.gaps(i), !wide ? 1 : x.point(i, 1) == 0 ? 5 : 3);
        }
    }

    public static void main(String[] args) {
        withoutCurve();
        amounts();
        atTheEnd(Check.onCurve(7, 1, 1, 0, 1), 3);
        atTheEnd(Check.onCurve(5, 1, 1, 1, 1, 1, 1), 5);
        byHand();
        turnedAbout(7, 1, 1, 0, 1);
        turnedAbout(3, 0, 2, 0, 1);
        turnedAbout(5, 0, 4, 0, 0, 0, 1);
        turnedAbout(13, 0, 1, 0, 0, 0, 1);
        turnedAbout(11, 1, 2, 3, 4, 5, 1);
        lines(7, 1, 1, 0, 1);
        lines(3, 1, 2, 0, 1);
        lines(11, 3, 0, 1, 1);
        lines(13, 4, 0, 0, 1);
        gapsOf(7, 1, 1, 0, 1);
        gapsOf(3, 0, 2, 0, 1);
        gapsOf(3, 1, 2, 0, 0, 0, 1);
        gapsOf(5, 0, 4, 0, 0, 0, 1);
        gapsOf(13, 0, 1, 0, 0, 0, 1);
        Check.end();
    }
}
