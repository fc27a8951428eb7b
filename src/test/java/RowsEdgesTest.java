/** Promises 18 to 29 at their edges: the fewest and the most numbers, 0 and 255, like ones, none, ups and downs. */
public final class RowsEdgesTest {
    private static OnlyDifferences x = new OnlyDifferences();

    public static void main(String[] args) {
        rowDepth();
        rowWidest();
        walk();
        walkTurns();
        roundOfTwo();
        roundAhead();
        roundLongest();
        triangle();
        bestRise();
        narrowest();
        twos();
        paired();
        halves();
        halvesLike();
        steady();
        unsteady();
        comes();
        comesRefuse();
        rests();
        restsRefuse();
        fewerBehindMore();
        bytesFromTheFront();
        Due.end();
    }

    /** A call by the first numbers of the tape, which is made anew: none is used for more than its calls. */
    private interface Call {
        long of(int n);
    }

    private static void is(String call, long want, Call asked, int... bytes) {
        x = new OnlyDifferences();
        Feed.bytes(x, bytes);
        StringBuilder told = new StringBuilder(call).append(" of");
        for (int number : bytes) {
            told.append(' ').append(number);
        }
        Due.is(told.toString(), asked.of(bytes.length), want);
        Due.is("bytes behind " + told, x.count(5), 0);
    }

    private static int[] times(int many, int... numbers) {
        int[] row = new int[many];
        for (int i = 0; i < many; i++) {
            row[i] = numbers[i % numbers.length];
        }
        return row;
    }

    private static int[] upFrom(int first, int step, int many) {
        int[] row = new int[many];
        for (int i = 0; i < many; i++) {
            row[i] = first + i * step;
        }
        return row;
    }

    // A ROW: two bytes each, the higher first.

    private static void rowIs(int depth, long on, int... numbers) {
        int[] bytes = new int[2 * numbers.length];
        for (int i = 0; i < numbers.length; i++) {
            bytes[2 * i] = numbers[i] / 256;
            bytes[2 * i + 1] = numbers[i] % 256;
        }
        is("row 0", depth, n -> x.row(n / 2, 0), bytes);
        is("row 1", on, n -> x.row(n / 2, 1), bytes);
    }

    private static void rowDepth() {
        rowIs(0, 0, 0, 0);
        rowIs(0, 65535, 65535, 65535);
        rowIs(1, 2, 0, 1);
        rowIs(1, -1, 1, 0);
        rowIs(1, 3, 0, 1, 2);
        rowIs(2, 6, 0, 1, 3);
        rowIs(0, 256, times(12, 256));
        rowIs(1, 12, upFrom(0, 1, 12));
        rowIs(1, -1, upFrom(11, -1, 12));
        rowIs(2, 144, 0, 1, 4, 9, 16, 25, 36, 49, 64, 81, 100, 121);
    }

    /** Differences that are taken eleven times of 0 and 65535 by turns; one that is left stays so. */
    private static void rowWidest() {
        rowIs(11, -65535L * 2047, times(12, 65535, 0));
        rowIs(11, 65535L * 2048, times(12, 0, 65535));
        rowIs(1, 131070, 0, 65535);
        rowIs(1, -65535, 65535, 0);
        rowIs(2, 131070 + 65535, 0, 0, 65535);
        rowIs(2, -131070, 65535, 65535, 0);
        rowIs(11, 12 * 65535L, 0, 0, 0, 0, 0, 0, 0, 0, 0, 0, 0, 65535);
        rowIs(11, -65535L, 65535, 0, 0, 0, 0, 0, 0, 0, 0, 0, 0, 0);
        rowIs(1, 0x0203, 0x0201, 0x0202);
        rowIs(1, 0x0400, 0x0200, 0x0300);
    }

    // A WALK: bytes above 127 less 256.

    private static void walkIs(int end, int most, int least, int turns, int... bytes) {
        is("walk 0", end, n -> x.walk(n, 0), bytes);
        is("walk 1", most, n -> x.walk(n, 1), bytes);
        is("walk 2", least, n -> x.walk(n, 2), bytes);
        is("walk 3", turns, n -> x.walk(n, 3), bytes);
    }

    private static void walk() {
        walkIs(0, 0, 0, 0, 0);
        walkIs(1, 1, 0, 0, 1);
        walkIs(-1, 0, -1, 0, 255);
        walkIs(127, 127, 0, 0, 127);
        walkIs(-128, 0, -128, 0, 128);
        walkIs(-127, 0, -127, 0, 129);
        walkIs(2540, 2540, 0, 0, times(20, 127));
        walkIs(-2560, 0, -2560, 0, times(20, 128));
        walkIs(-10, 127, -10, 19, times(20, 127, 128));
        walkIs(0, 5, 0, 1, 5, 251);
        walkIs(0, 0, -5, 1, 251, 5);
        walkIs(-1, 3, -1, 1, 3, 252);
    }

    private static void walkTurns() {
        walkIs(0, 0, 0, 0, times(20, 0));
        walkIs(2, 2, 0, 0, 1, 0, 1);
        walkIs(0, 1, 0, 1, 1, 0, 255);
        walkIs(0, 0, -1, 1, 255, 0, 0, 1);
        walkIs(0, 1, 0, 1, 0, 1, 0, 255, 0);
        walkIs(1, 1, 0, 2, 1, 255, 1);
        walkIs(-1, 0, -1, 2, 255, 1, 255);
        walkIs(0, 1, 0, 19, times(20, 1, 255));
        walkIs(0, 1, 0, 9, times(20, 1, 0, 255, 0));
    }

    // ROUND: two to eight numbers in a ring.

    private static void roundIs(int till, int ring, int ahead, int... bytes) {
        is("round 0", till, n -> x.round(n, 0), bytes);
        is("round 1", ring, n -> x.round(n, 1), bytes);
        is("round 2", ahead, n -> x.round(n, 2), bytes);
    }

    private static void roundOfTwo() {
        roundIs(0, 1, 0, 0, 0);
        roundIs(1, 1, 1, 255, 255);
        roundIs(2, 1, 2, 0, 255);
        roundIs(2, 1, 2, 255, 0);
        roundIs(2, 1, 2, 1, 0);
    }

    private static void roundAhead() {
        for (int n = 2; n <= 8; n++) {
            roundIs(0, 1, 0, times(n, 0));
            roundIs(1, 1, 1, times(n, 7));
        }
        roundIs(-2, 3, 0, 0, 1, 1);
        roundIs(-2, 3, 1, 1, 1, 2);
        roundIs(-2, 3, 0, 0, 255, 255);
        roundIs(-2, 3, 255, 0, 1, 255);
        roundIs(4, 1, 4, 1, 0, 0, 0);
        roundIs(1, 1, 1, 9, 9, 9, 9);
        roundIs(2, 1, 2, 0, 9, 0, 9);
        roundIs(3, 1, 3, 0, 0, 9, 9);
    }

    /** The longest of those that come to nothing, and THE RINGS of numbers that never do. */
    private static void roundLongest() {
        roundIs(5, 1, 5, 0, 44, 125, 149);
        roundIs(16, 1, 16, 0, 24, 68, 149);
        roundIs(-2, 15, 0, 0, 0, 0, 1, 1);
        roundIs(-2, 6, 0, 0, 1, 0, 0, 0, 1);
        roundIs(-2, 7, 0, 0, 0, 0, 0, 0, 1, 1);
        roundIs(8, 1, 8, 0, 0, 0, 0, 0, 0, 0, 255);
        roundIs(8, 1, 8, 1, 0, 0, 0, 0, 0, 0, 0);
    }

    private static void triangle() {
        x = new OnlyDifferences();
        int[] many = {1, 4, 8, 8};
        int[][] first = {{1, -4, -4, -4}, {1, 3, -4, -4}, {1, 6, 4, -4}, {6, 1, 10, 8}};
        for (int lines = 4; lines >= 1; lines--) {
            Due.is("A TRIANGLE of " + lines, x.triangle(lines, 100), many[lines - 1]);
            for (int what = 0; what < 4; what++) {
                Due.is("number " + what + " of " + lines, x.triangle(lines, what), first[lines - 1][what]);
            }
            Due.is("no number 4", x.triangle(lines, 4), -1);
            Due.is("no number -1", x.triangle(lines, -1), -1);
        }
        Due.is("no lines", x.triangle(0, 0), -1);
        Due.is("five lines", x.triangle(5, 0), -1);
        Due.is("five lines, how many", x.triangle(5, 100), -1);
        Due.is("no such number ahead of too short a line", x.triangle(1, 4), -1);
    }

    // THE BEST RISE by 1 to 3 bargains at most.

    private static void riseIs(int one, int two, int three, int... prices) {
        is("bestRise 1", one, n -> x.bestRise(n, 1), prices);
        is("bestRise 2", two, n -> x.bestRise(n, 2), prices);
        is("bestRise 3", three, n -> x.bestRise(n, 3), prices);
    }

    private static void bestRise() {
        riseIs(0, 0, 0, 0);
        riseIs(0, 0, 0, 255);
        riseIs(255, 255, 255, 0, 255);
        riseIs(0, 0, 0, 255, 0);
        riseIs(0, 0, 0, times(20, 9));
        riseIs(0, 0, 0, upFrom(255, -1, 20));
        riseIs(19, 19, 19, upFrom(0, 1, 20));
        riseIs(255, 510, 765, times(20, 0, 255));
        riseIs(255, 510, 765, times(20, 255, 0));
        riseIs(255, 510, 510, 0, 255, 0, 255);
        riseIs(255, 255, 255, 255, 0, 255);
        riseIs(3, 4, 4, 0, 2, 1, 3);
        riseIs(3, 3, 3, 0, 1, 2, 3);
        riseIs(4, 6, 8, 0, 4, 2, 4, 2, 4, 2, 4);
    }

    private static void narrowest() {
        for (int out = 0; out < 20; out++) {
            int left = out;
            is("narrowest, out " + out, 19 - out, n -> x.narrowest(n, left), upFrom(100, 1, 20));
            is("narrowest, out " + out, out == 0 || out < 10 ? 255 : 0, n -> x.narrowest(n, left), times(20, 0, 255));
            is("narrowest of like ones, out " + out, 0, n -> x.narrowest(n, left), times(20, 255));
        }
        is("narrowest of one", 0, n -> x.narrowest(n, 0), 255);
        is("narrowest of two", 255, n -> x.narrowest(n, 0), 255, 0);
        is("narrowest of two, one out", 0, n -> x.narrowest(n, 1), 255, 0);
        is("the greatest out", 1, n -> x.narrowest(n, 1), 9, 5, 4);
        is("the least out", 1, n -> x.narrowest(n, 1), 9, 8, 4);
        is("one of each end", 1, n -> x.narrowest(n, 2), 9, 5, 4, 0);
    }

    private static void twos() {
        is("twos of one", 0, n -> x.twos(n, 0), 255);
        is("twos alike", 1, n -> x.twos(n, 0), 255, 255);
        is("twos unlike", 0, n -> x.twos(n, 0), 255, 254);
        is("twos as far as can be", 1, n -> x.twos(n, 255), 255, 0);
        is("twos as far as can be, either way", 100, n -> x.twos(n, 255), times(20, 0, 255));
        is("twos alike of both kinds", 90, n -> x.twos(n, 0), times(20, 0, 255));
        is("twos one less than the most", 0, n -> x.twos(n, 254), times(20, 0, 255));
        is("twos of 20 alike", 190, n -> x.twos(n, 0), times(20, 7));
        is("twos by one", 19, n -> x.twos(n, 1), upFrom(0, 1, 20));
        is("twos by 19", 1, n -> x.twos(n, 19), upFrom(0, 1, 20));
        is("twos by 20", 0, n -> x.twos(n, 20), upFrom(0, 1, 20));
    }

    private static void pairedIs(int all, int greatest, int... bytes) {
        is("paired 0", all, n -> x.paired(n, 0), bytes);
        is("paired 1", greatest, n -> x.paired(n, 1), bytes);
    }

    private static void paired() {
        pairedIs(0, 0, 0, 0);
        pairedIs(255, 255, 0, 255);
        pairedIs(255, 255, 255, 0);
        pairedIs(0, 0, 0, 255, 255, 0);
        pairedIs(255, 255, 0, 0, 0, 255);
        pairedIs(0, 0, times(16, 0, 255));
        pairedIs(255, 255, times(14, 0, 255));
        pairedIs(8, 1, upFrom(0, 1, 16));
        pairedIs(136, 17, upFrom(255, -17, 16));
        pairedIs(8, 8, 1, 2, 10, 1);
    }

    // HALVES: by how much, and which, without the first.

    private static void halvesAre(int much, int which, int... bytes) {
        is("halves 0", much, n -> x.halves(n, 0), bytes);
        is("halves 1", which, n -> x.halves(n, 1), bytes);
    }

    private static void halves() {
        halvesAre(0, 0, 0, 0);
        halvesAre(255, 0, 0, 255);
        halvesAre(255, 0, 255, 0);
        halvesAre(0, 2, 255, 255);
        halvesAre(1, 2, 255, 254);
        halvesAre(1, 2, 254, 255);
        halvesAre(0, 0, times(16, 0));
        halvesAre(0, 510, times(16, 255));
        halvesAre(255, 0b11111110, times(15, 255));
        halvesAre(0, 32768, 255, 0, 0, 0, 0, 0, 0, 0, 0, 0, 0, 0, 0, 0, 0, 255);
        halvesAre(0, 65534, 255, 17, 17, 17, 17, 17, 17, 17, 17, 17, 17, 17, 17, 17, 17, 17);
    }

    /** Some or the others, whichever has the least bits without the first one. */
    private static void halvesLike() {
        halvesAre(255, 0, 255, 0, 0);
        halvesAre(5, 0, 0, 5, 0);
        halvesAre(5, 0, 0, 0, 5);
        halvesAre(0, 0b0110, 2, 1, 1, 0);
        halvesAre(0, 0b0110, 1, 1, 1, 1);
        halvesAre(0, 0b0110, 3, 3, 1, 1);
        halvesAre(1, 0b010, 1, 1, 1);
        halvesAre(2, 0b1000, 1, 3, 3, 9);
        halvesAre(4, 0b010, 4, 4, 4);
        halvesAre(1, 0, 0, 1, 0, 0);
        halvesAre(1, 0b0010, 0, 9, 4, 4);
        halvesAre(1, 0b0010, 0, 8, 5, 4);
        halvesAre(0, 0b1010, 4, 6, 3, 1);
    }

    private static void steadyIs(int want, int... bytes) {
        is("steady 0", want, n -> x.steady(n, 0), bytes);
    }

    private static void steady() {
        steadyIs(1, 0);
        steadyIs(1, 255);
        steadyIs(2, 0, 255);
        steadyIs(2, 255, 0);
        steadyIs(2, 5, 5);
        steadyIs(2, 0, 1, 3);
        steadyIs(3, 0, 1, 2);
        steadyIs(3, 2, 1, 0);
        steadyIs(20, times(20, 255));
        steadyIs(20, upFrom(0, 13, 20));
        steadyIs(20, upFrom(255, -13, 20));
        steadyIs(10, times(20, 0, 255));
        steadyIs(3, 5, 0, 5, 255, 5);
        steadyIs(4, 0, 9, 1, 9, 2, 0, 3);
        steadyIs(2, 3, 1, 2);
    }

    private static void unsteadyIs(int want, int... bytes) {
        is("steady 1", want, n -> x.steady(n, 1), bytes);
    }

    private static void unsteady() {
        unsteadyIs(1, 0);
        unsteadyIs(1, 255);
        unsteadyIs(1, 9, 9);
        unsteadyIs(1, times(20, 0));
        unsteadyIs(2, 0, 255);
        unsteadyIs(2, 255, 0);
        unsteadyIs(2, upFrom(0, 13, 20));
        unsteadyIs(2, upFrom(255, -13, 20));
        unsteadyIs(20, times(20, 0, 255));
        unsteadyIs(20, times(20, 255, 0));
        unsteadyIs(3, 0, 1, 0);
        unsteadyIs(3, 1, 0, 1);
        unsteadyIs(3, 0, 1, 1, 0);
        unsteadyIs(3, 0, 0, 1, 2, 2, 1, 1);
        unsteadyIs(4, 5, 9, 7, 3, 3, 4);
    }

    private static void comesIs(int many, int last, int... bytes) {
        is("comes 0", many, n -> x.comes(n, 0), bytes);
        is("comes 1", last, n -> x.comes(n, 1), bytes);
    }

    private static void comes() {
        comesIs(0, 0, 1);
        comesIs(0, 0, 255);
        comesIs(0, 0, 1, 2);
        comesIs(0, 0, 2, 1);
        comesIs(1, 1, 1, 3);
        comesIs(2, 0, 1, 4);
        comesIs(0, 0, 127, 254);
        comesIs(1, 1, 85, 255);
        comesIs(253, 1, 254, 255);
        comesIs(252, 0, 253, 254, 255);
        comesIs(247, 1, upFrom(248, 1, 8));
        comesIs(0, 0, upFrom(1, 1, 8));
        comesIs(0, 0, upFrom(8, -1, 8));
        comesIs(0, 0, upFrom(31, 31, 8));
        comesIs(1, 1, 2, 3, 4, 5, 6, 7, 8, 9);
        comesIs(2, 0, 6, 10, 4);
    }

    private static void comesRefuse() {
        comesIs(-3, -3, 0);
        comesIs(-3, -3, 0, 1);
        comesIs(-3, -3, 1, 0);
        comesIs(-3, -3, 0, 0);
        comesIs(-3, -3, 1, 1);
        comesIs(-3, -3, 255, 255);
        comesIs(-3, -3, 1, 2, 3, 4, 5, 6, 7, 1);
        comesIs(-3, -3, 1, 2, 3, 4, 5, 6, 7, 0);
    }

    private static void restsAre(int m, int least, int most, int... bytes) {
        is("rests 0 modulo " + m, least, n -> x.rests(n, m, 0), bytes);
        is("rests 1 modulo " + m, most, n -> x.rests(n, m, 1), bytes);
    }

    private static void rests() {
        restsAre(2, 2, 2, 0, 1);
        restsAre(2, 2, 2, 1, 0);
        restsAre(3, 1, 1, 0, 2);
        restsAre(3, 3, 3, 0, 1, 2);
        restsAre(4, 0, 1, 0, 1);
        restsAre(4, 0, 2, 0, 2);
        restsAre(4, 0, 1, 3, 2);
        restsAre(12, 12, 12, upFrom(0, 1, 12));
        restsAre(13, 11, 11, upFrom(1, 1, 12));
        restsAre(60, 0, 12, upFrom(0, 5, 12));
        restsAre(60, 0, 11, upFrom(48, 1, 12));
        restsAre(60, 0, 2, 0, 30);
        restsAre(60, 0, 1, 0, 59);
        restsAre(21, 1, 1, 3, 6, 7, 12, 14);
        restsAre(21, 0, 3, 3, 6, 7, 12, 15);
    }

    private static void restsRefuse() {
        restsAre(2, -3, -3, 0, 2);
        restsAre(2, -3, -3, 2, 0);
        restsAre(60, -3, -3, 0, 60);
        restsAre(60, -3, -3, 59, 255);
        restsAre(60, -3, -3, 0, 0);
        restsAre(60, -3, -3, 59, 59);
        restsAre(60, -3, -3, 1, 2, 3, 4, 5, 6, 7, 8, 9, 10, 11, 1);
        restsAre(60, -3, -3, 1, 2, 3, 4, 5, 6, 7, 8, 9, 10, 11, 60);
        restsAre(2, -3, -3, 0, 1, 0);
    }

    /** Fewer numbers behind more: those of the call ahead count for nothing. */
    private static void fewerBehindMore() {
        x = new OnlyDifferences();
        Call[] longer = {n -> x.walk(20, 0), n -> x.row(10, 0), n -> x.steady(20, 1)};
        Call[] shorter = {n -> x.round(2, 2), n -> x.round(8, 0), n -> x.bestRise(1, 3), n -> x.narrowest(1, 0),
            n -> x.twos(1, 0), n -> x.paired(2, 1), n -> x.halves(2, 1), n -> x.steady(1, 0), n -> x.comes(1, 0),
            n -> x.comes(2, 0), n -> x.rests(2, 9, 1), n -> x.walk(1, 1), n -> x.row(2, 1), n -> x.check(1)};
        int[] bytes = {6, 3, 0, 0, 0, 0, 0, 0};
        long[] want = {2, 8, 0, 0, 0, 3, 2, 1, 0, 0, 1, 6, 6 * -256 - 3, 0};
        for (int i = 0; i < shorter.length; i++) {
            for (Call more : longer) {
                Feed.bytes(x, times(20, 255, 1, 7, 2, 9));
                more.of(0);
                Feed.bytes(x, bytes);
                Due.is("shorter call " + i, shorter[i].of(0), want[i]);
            }
        }
    }

    /** What stands behind the first n bytes counts for nothing. */
    private static void bytesFromTheFront() {
        int[] bytes = {7, 9, 200, 100, 0, 255, 255, 0};
        Call[] calls = {n -> x.walk(2, 0), n -> x.bestRise(2, 1), n -> x.narrowest(2, 0), n -> x.twos(2, 2),
            n -> x.paired(2, 0), n -> x.halves(2, 0), n -> x.steady(2, 0), n -> x.comes(2, 0), n -> x.rests(2, 11, 1),
            n -> x.row(2, 1), n -> x.round(2, 0)};
        long[] want = {16, 2, 2, 1, 2, 2, 2, 9 - 2, 1, 2 * (200 * 256 + 100) - (7 * 256 + 9), 2};
        for (int i = 0; i < calls.length; i++) {
            is("call " + i, want[i], calls[i], bytes);
        }
    }
}
