import java.util.ArrayList;
import java.util.Arrays;
import java.util.List;
import java.util.Random;
import java.util.TreeSet;

/** Drawn rows of numbers, reckoned in the plainest way there is. */
public final class PlainRowsTest {
    private static final OnlyDifferences X = new OnlyDifferences();
    private static Random random = new Random(7);
    private static int[] row;

    public static void main(String[] args) {
        for (int round = 0; round < 1500; round++) {
            rows();
            walks();
            rounds();
            rises();
            narrowest();
            twos();
            paired();
            halves();
            steady();
            comes();
            rests();
        }
        triangles();
        Due.end();
    }

    private static void draw(int least, int most) {
        int spread = random.nextInt(3) == 0 ? 256 : random.nextInt(2) == 0 ? 4 : 20;
        row = new int[least + random.nextInt(most - least + 1)];
        for (int i = 0; i < row.length; i++) {
            row[i] = random.nextInt(spread);
        }
    }

    private static String told(String call) {
        return call + " of " + Arrays.toString(row);
    }

    private static int fed() {
        Feed.bytes(X, row);
        return row.length;
    }

    private static long pick(int n, int k) {
        long pick = 1;
        for (int i = 1; i <= k; i++) {
            pick = pick * (n - i + 1) / i;
        }
        return pick;
    }

    private static void rows() {
        draw(2, 12);
        int[] numbers = new int[row.length];
        boolean far = random.nextBoolean();
        for (int i = 0; i < numbers.length; i++) {
            numbers[i] = far ? random.nextInt(65536) : i < 3 ? row[i] : 3 * numbers[i - 1] - 3 * numbers[i - 2] + numbers[i - 3];
            numbers[i] = Math.max(0, Math.min(65535, numbers[i]));
        }
        row = new int[2 * numbers.length];
        for (int i = 0; i < numbers.length; i++) {
            row[2 * i] = numbers[i] >> 8;
            row[2 * i + 1] = numbers[i] & 255;
        }
        // The k-th differences by the numbers that stand over a pick of k.
        int depth = 0;
        while (!alikeAt(numbers, depth)) {
            depth++;
        }
        long next = 0;
        for (int k = 0; k <= depth; k++) {
            next += differenceAt(numbers, k, numbers.length - 1 - k);
        }
        int n = fed() / 2;
        Due.is(told("depth"), X.row(n, 0), depth);
        fed();
        Due.is(told("next"), X.row(n, 1), next);
    }

    private static long differenceAt(int[] numbers, int k, int from) {
        long difference = 0;
        for (int i = 0; i <= k; i++) {
            difference += ((k - i) % 2 == 0 ? 1 : -1) * pick(k, i) * numbers[from + i];
        }
        return difference;
    }

    private static boolean alikeAt(int[] numbers, int k) {
        for (int from = 1; from + k < numbers.length; from++) {
            if (differenceAt(numbers, k, from) != differenceAt(numbers, k, 0)) {
                return false;
            }
        }
        return true;
    }

    private static void walks() {
        draw(1, 20);
        int at = 0;
        TreeSet<Integer> places = new TreeSet<>(List.of(0));
        StringBuilder ways = new StringBuilder();
        for (int step : row) {
            at += (byte) step;
            places.add(at);
            ways.append((byte) step > 0 ? "u" : (byte) step < 0 ? "d" : "");
        }
        int turns = ways.toString().replaceAll("u+", "u").replaceAll("d+", "d").length() - 1;
        int[] want = {at, places.last(), places.first(), Math.max(0, turns)};
        for (int what = 0; what < 4; what++) {
            Due.is(told("walk " + what), X.walk(fed(), what), want[what]);
        }
    }

    private static void rounds() {
        draw(2, 8);
        List<String> seen = new ArrayList<>();
        int[] now = row.clone();
        int zero = -2;
        while (!seen.contains(Arrays.toString(now))) {
            seen.add(Arrays.toString(now));
            if (zero < 0 && Arrays.stream(now).sum() == 0) {
                zero = seen.size() - 1;
            }
            int[] next = new int[now.length];
            for (int i = 0; i < now.length; i++) {
                next[i] = Math.abs(now[i] - now[(i + 1) % now.length]);
            }
            now = next;
        }
        int ahead = seen.indexOf(Arrays.toString(now));
        Due.is(told("all 0"), X.round(fed(), 0), zero);
        Due.is(told("ring"), X.round(fed(), 1), seen.size() - ahead);
        Due.is(told("ahead"), X.round(fed(), 2), ahead);
    }

    private static void rises() {
        draw(1, random.nextInt(3) == 0 ? 20 : 10);
        for (int bargains = 1; bargains <= 3; bargains++) {
            Due.is(told("rise by " + bargains), X.bestRise(fed(), bargains), rise(0, bargains));
        }
    }

    private static int rise(int from, int bargains) {
        int best = 0;
        for (int buy = from; bargains > 0 && buy < row.length; buy++) {
            for (int sell = buy + 1; sell < row.length; sell++) {
                if (row[sell] > row[buy]) {
                    best = Math.max(best, row[sell] - row[buy] + rise(sell, bargains - 1));
                }
            }
        }
        return best;
    }

    private static void narrowest() {
        draw(1, 10);
        int out = random.nextInt(row.length);
        int best = 999;
        for (int some = 0; some < 1 << row.length; some++) {
            if (Integer.bitCount(some) == row.length - out) {
                int least = 999;
                int most = 0;
                for (int i = 0; i < row.length; i++) {
                    least = (some >> i & 1) != 0 ? Math.min(least, row[i]) : least;
                    most = (some >> i & 1) != 0 ? Math.max(most, row[i]) : most;
                }
                best = Math.min(best, most - least);
            }
        }
        Due.is(told("narrowest without " + out), X.narrowest(fed(), out), best);
    }

    private static void twos() {
        draw(1, 20);
        int apart = random.nextInt(6);
        int many = 0;
        for (int one : row) {
            for (int other : row) {
                many += one - other == apart ? 1 : 0;
            }
        }
        many = apart == 0 ? (many - row.length) / 2 : many;
        Due.is(told("twos " + apart), X.twos(fed(), apart), many);
    }

    private static void paired() {
        draw(1, 4);
        int half = row.length;
        draw(2 * half, 2 * half);
        Due.is(told("in all"), X.paired(fed(), 0), pairs((1 << row.length) - 1, false));
        Due.is(told("greatest"), X.paired(fed(), 1), pairs((1 << row.length) - 1, true));
    }

    private static int pairs(int left, boolean greatest) {
        if (left == 0) {
            return 0;
        }
        int one = Integer.numberOfTrailingZeros(left);
        int best = 99999;
        for (int other = one + 1; other < row.length; other++) {
            if ((left >> other & 1) != 0) {
                int apart = Math.abs(row[one] - row[other]);
                int rest = pairs(left & ~(1 << one) & ~(1 << other), greatest);
                best = Math.min(best, greatest ? Math.max(apart, rest) : apart + rest);
            }
        }
        return best;
    }

    private static void halves() {
        draw(2, random.nextInt(20) == 0 ? 16 : 8);
        int best = 99999;
        int which = 0;
        for (int some = 0; some < 1 << row.length; some += 2) {
            int apart = 0;
            for (int i = 0; i < row.length; i++) {
                apart += (some >> i & 1) != 0 ? row[i] : -row[i];
            }
            if (Math.abs(apart) < best) {
                best = Math.abs(apart);
                which = some;
            }
        }
        Due.is(told("halves"), X.halves(fed(), 0), best);
        Due.is(told("which half"), X.halves(fed(), 1), which);
    }

    private static void steady() {
        draw(1, random.nextInt(20) == 0 ? 14 : 9);
        int steady = 1;
        int unsteady = 1;
        for (int some = 1; some < 1 << row.length; some++) {
            int[] part = new int[Integer.bitCount(some)];
            int size = 0;
            for (int i = 0; i < row.length; i++) {
                if ((some >> i & 1) != 0) {
                    part[size++] = row[i];
                }
            }
            boolean even = true;
            boolean turning = size < 2 || part[0] != part[1];
            for (int i = 2; i < size; i++) {
                even &= part[i] - part[i - 1] == part[1] - part[0];
                turning &= (part[i] - part[i - 1]) * (part[i - 1] - part[i - 2]) < 0;
            }
            steady = even ? Math.max(steady, size) : steady;
            unsteady = turning ? Math.max(unsteady, size) : unsteady;
        }
        Due.is(told("steady"), X.steady(fed(), 0), steady);
        Due.is(told("unsteady"), X.steady(fed(), 1), unsteady);
    }

    private static void comes() {
        draw(1, 8);
        TreeSet<Integer> board = new TreeSet<>();
        for (int number : row) {
            board.add(number);
        }
        int want = board.size() < row.length || board.contains(0) ? -3 : written(board);
        Due.is(told("comes"), X.comes(fed(), 0), want);
        Due.is(told("last"), X.comes(fed(), 1), want == -3 ? -3 : want % 2);
    }

    private static int written(TreeSet<Integer> board) {
        int many = 0;
        boolean more = true;
        while (more) {
            more = false;
            List<Integer> there = new ArrayList<>(board);
            for (int one : there) {
                for (int other : there) {
                    if (one > other && board.add(one - other)) {
                        many++;
                        more = true;
                    }
                }
            }
        }
        return many;
    }

    private static void rests() {
        draw(2, 12);
        int m = 2 + random.nextInt(59);
        if (random.nextBoolean()) {
            TreeSet<Integer> unlike = new TreeSet<>();
            for (int number : row) {
                unlike.add(number % m);
            }
            row = unlike.size() < 2 ? row : unlike.stream().mapToInt(i -> i).toArray();
        }
        int[] often = new int[m];
        boolean wrong = false;
        for (int i = 0; i < row.length; i++) {
            wrong |= row[i] >= m;
            for (int j = 0; j < row.length; j++) {
                wrong |= i != j && row[i] == row[j];
                often[Math.floorMod(row[i] - row[j], m)]++;
            }
        }
        int least = Arrays.stream(often).skip(1).min().getAsInt();
        int most = Arrays.stream(often).skip(1).max().getAsInt();
        Due.is(told("least rest " + m), X.rests(fed(), m, 0), wrong ? -3 : least);
        Due.is(told("most rest " + m), X.rests(fed(), m, 1), wrong ? -3 : most);
    }

    private static void triangles() {
        for (int lines = 1; lines <= 4; lines++) {
            int size = lines * (lines + 1) / 2;
            int all = (int) Math.round(Math.pow(size, lines));
            int many = 0;
            int[] least = null;
            for (int code = 0; code < all; code++) {
                int[] line = new int[lines];
                int rest = code;
                for (int i = lines - 1; i >= 0; i--) {
                    line[i] = 1 + rest % size;
                    rest /= size;
                }
                if (isTriangle(line, size)) {
                    many++;
                    least = least == null ? line : least;
                }
            }
            Due.is("triangles of " + lines, X.triangle(lines, 100), many);
            for (int i = 0; i < lines; i++) {
                Due.is("number " + i + " of " + lines, X.triangle(lines, i), least[i]);
            }
        }
    }

    private static boolean isTriangle(int[] first, int size) {
        TreeSet<Integer> all = new TreeSet<>();
        int[] line = first;
        for (int left = first.length; left > 0; left--) {
            int[] next = new int[left];
            for (int i = 0; i < left; i++) {
                all.add(line[i]);
                next[i] = i + 1 < left ? Math.abs(line[i] - line[i + 1]) : 0;
            }
            line = next;
        }
        return all.size() == size && all.first() == 1 && all.last() == size;
    }
}
