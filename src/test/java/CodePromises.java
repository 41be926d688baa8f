/** Promises 24 to 28: codes, the told row, the nearest word and the least one. */
public final class CodePromises {
    private static void withoutCurve() {
        CurveRooms x = new CurveRooms();
        Check.due("code(30, 1)", x.code(30, 1), Check.NO);
        Check.due("code(31, 1)", x.code(31, 1), Check.BAD);
        Check.due("code(0, 2)", x.code(0, 2), Check.BAD);
        Check.due("read(0, 99, 26)", x.read(0, 99, 26), Check.NO);
        Check.due("read(0, 0, 27)", x.read(0, 0, 27), Check.BAD);
        Check.due("read(0, 0, 0)", x.read(0, 0, 0), Check.BAD);
        Check.due("read(0, -1, 1)", x.read(0, -1, 1), Check.BAD);
        Check.due("tell(25, 6)", x.tell(25, 6), 0);
        Check.due("tell(25, 0)", x.tell(25, 0), 6);
        Check.due("near(0, 99)", x.near(0, 99), Check.NO);
        Check.due("near(0, -2)", x.near(0, -2), Check.BAD);
        Check.due("least(0)", x.least(0), Check.NO);
        Check.due("least(-1)", x.least(-1), Check.BAD);
    }

    private static void wrongInputs() {
        CurveRooms x = Check.onCurve(7, 1, 1, 0, 1);
        for (int m : new int[] {-1, 31, Check.LEAST, Check.GREATEST}) {
            Check.due("code", x.code(m, 0), Check.BAD);
            Check.due("read", x.read(m, 0, 1), Check.BAD);
            Check.due("near", x.near(m, -1), Check.BAD);
            Check.due("least", x.least(m), Check.BAD);
        }
        Check.due("code(3, -1)", x.code(3, -1), Check.BAD);
        Check.due("read: no such function", x.read(3, 3, 1), Check.BAD);
        Check.due("read: function -1", x.read(3, -1, 1), Check.BAD);
        Check.due("read: the end", x.read(3, 0, 0), Check.BAD);
        Check.due("read: no such point", x.read(3, 0, 5), Check.BAD);
        Check.due("tell(-1, 0)", x.tell(-1, 0), Check.BAD);
        Check.due("tell(26, 0)", x.tell(26, 0), Check.BAD);
        Check.due("tell(0, 7)", x.tell(0, 7), Check.BAD);
        Check.due("tell(0, -1)", x.tell(0, -1), Check.BAD);
        Check.due("near(3, -2)", x.near(3, -2), Check.BAD);
        Check.due("near(3, 3)", x.near(3, 3), Check.NONE);
    }

    /** 1, x, y, x x, x y, .. by their poles, those left out that are sums of the ones ahead by the points. */
    private static void functions() {
        CurveRooms x = Check.onCurve(7, 1, 1, 0, 1);
        int[] widths = {1, 1, 2, 3, 3, 4};
        for (int m = 0; m < widths.length; m++) Check.due("width by " + m, x.code(m, 1), widths[m]);
        Check.due("width by 30", x.code(30, 1), 4);
        Check.due("length", x.code(30, 0), 4);
        int[][] words = {{1, 1, 1, 1}, {0, 0, 2, 2}, {1, 6, 2, 5}};
        for (int j = 0; j < 4; j++) {
            for (int i = 0; i < 3; i++) Check.due("read(3, " + i + ")", x.read(3, i, j + 1), words[i][j]);
            // x x is 2 x at 0 and 2: the fourth left is x y, of pole 5
            Check.due("read(5, 3)", x.read(5, 3, j + 1), new int[] {0, 0, 4, 3}[j]);
        }
    }

    private static int[][] wordsOf(CurveRooms x, int m) {
        int[][] words = new int[x.code(m, 1)][x.code(m, 0)];
        for (int i = 0; i < words.length; i++) {
            for (int j = 0; j < words[i].length; j++) words[i][j] = x.read(m, i, j + 1);
        }
        return words;
    }

    /** All words one by one, as the document says it, against the class's own road. */
    private static void allWords(CurveRooms x, int p, int m, int[] told) {
        int[][] words = wordsOf(x, m);
        long many = 1;
        for (int i = 0; i < words.length; i++) many *= p;
        if (many > 20000) {
            Check.due("near: above 20000", x.near(m, -1), Check.NO);
            Check.due("near: above 20000", x.near(m, 99), Check.NO);
            Check.due("least: above 20000", x.least(m), Check.NO);
            return;
        }
        int length = x.code(m, 0), nearest = length + 1, nearestAt = 0, least = length + 1;
        for (int n = 0; n < many; n++) {
            int apart = 0, weight = 0;
            for (int j = 0; j < length; j++) {
                int v = 0;
                for (int i = 0, rest = n; i < words.length; i++, rest /= p) v += rest % p * words[i][j];
                apart += v % p != told[j] ? 1 : 0;
                weight += v % p != 0 ? 1 : 0;
            }
            if (apart < nearest) {
                nearest = apart;
                nearestAt = n;
            }
            if (weight > 0) least = Math.min(least, weight);
        }
        Check.due("near by " + m, x.near(m, -1), nearest);
        for (int i = 0; i < words.length; i++, nearestAt /= p) Check.due("near digit", x.near(m, i), nearestAt % p);
        Check.due("near: not so many", x.near(m, words.length), Check.NONE);
        Check.due("least by " + m, x.least(m), words.length == 0 ? Check.NONE : least);
    }

    private static void mended(int p, int... row) {
        int[] told = new int[26];
        for (int round = 0; round < 3; round++) {
            for (int m = 0; m <= 12; m++) {
                CurveRooms x = Check.onCurve(p, row);
                for (int j = 0; j < 26; j++) Check.due("tell", x.tell(j, told[j]), 0);
                allWords(x, p, m, told);
            }
            for (int j = 0; j < 26; j++) told[j] = (j * j * (round + 2) + round + j / 3) % p;
        }
    }

    /** A curve with no point but the end: a code of length and width 0. */
    private static void emptyCode() {
        CurveRooms x = Check.onCurve(3, 2, 2, 0, 1);
        Check.due("points", x.points(), 1);
        Check.due("length", x.code(9, 0), 0);
        Check.due("width", x.code(9, 1), 0);
        Check.due("read", x.read(9, 0, 1), Check.BAD);
        x.tell(0, 2);
        Check.due("near", x.near(9, -1), 0);
        Check.due("near: no functions", x.near(9, 0), Check.NONE);
        Check.due("least", x.least(9), Check.NONE);
    }

    /** What was found for one curve or row isn't told of the next one. */
    private static void anotherCurve() {
        CurveRooms x = Check.onCurve(7, 1, 1, 0, 1);
        x.tell(0, 3);
        x.tell(1, 1);
        Check.due("near", x.near(3, 0), 3);
        x.tell(0, 0);
        x.tell(1, 0);
        Check.due("near: another row", x.near(3, 0), 0);
        Check.setCurve(x, 3, 1, 0, 0, 0, 1);
        Check.due("length: another curve", x.code(3, 0), x.points() - 1);
        Check.due("width: another curve", x.code(3, 1), 2);
    }

    public static void main(String[] args) {
        withoutCurve();
        wrongInputs();
        functions();
        mended(3, 1, 2, 0, 1);
        mended(3, 1, 2, 0, 0, 0, 1);
        mended(5, 1, 1, 1, 1, 1, 1);
        mended(7, 1, 1, 0, 1);
        mended(7, 3, 1, 0, 0, 0, 1);
        mended(11, 3, 0, 1, 1);
        mended(13, 0, 1, 0, 0, 0, 1);
        emptyCode();
        anotherCurve();
        Check.end();
    }
}
