import java.util.ArrayList;
import java.util.List;

/** Codes as the document says them: functions read off, all words gone over one by one. */
final class PlainCode {
    final int length;
    final List<int[]> words = new ArrayList<>();
    private final int p;

    PlainCode(int p, int[] f, int m) {
        this.p = p;
        List<int[]> points = Plain.points(p, f);
        length = points.size() - 1;
        for (int pole = 0; pole <= m; pole++) {
            boolean withY = pole % 2 == 1;
            if (withY && pole < f.length - 1) continue;
            int power = withY ? (pole - f.length + 1) / 2 : pole / 2;
            int[] word = new int[length];
            for (int j = 0; j < length; j++) {
                int[] point = points.get(j + 1);
                word[j] = withY ? point[1] : 1;
                for (int k = 0; k < power; k++) word[j] = word[j] * point[0] % p;
            }
            words.add(word);
            if (Plain.rank(p, words) < words.size()) words.remove(words.size() - 1);
        }
    }

    int width() {
        return words.size();
    }

    long wordMany() {
        long many = 1;
        for (int i = 0; i < width(); i++) many *= p;
        return many;
    }

    private int apart(int n, int[] told) {
        int apart = 0;
        for (int j = 0; j < length; j++) {
            int v = 0, rest = n;
            for (int i = 0; i < width(); i++, rest /= p) v += rest % p * words.get(i)[j];
            if (v % p != told[j]) apart++;
        }
        return apart;
    }

    /** How many places the nearest is apart, and its number by the digits, the first function's lowest. */
    int[] near(int[] told) {
        int[] best = {length + 1, 0};
        for (int n = 0; n < wordMany(); n++) {
            int apart = apart(n, told);
            if (apart < best[0]) best = new int[] {apart, n};
        }
        return best;
    }

    int least() {
        int least = length + 1;
        for (int n = 1; n < wordMany(); n++) least = Math.min(least, apart(n, new int[26]));
        return least;
    }
}
