/** Promises 18 to 29: what is reckoned of a few numbers on the tape, and TRIANGLES. */
public final class RowsTest {
    private static OnlyDifferences x = new OnlyDifferences();
    /** More than any call takes, and fit for each: what is refused is refused for its arguments. */
    private static final int[] MANY = new int[40];

    public static void main(String[] args) {
        for (int i = 0; i < MANY.length; i++) {
            MANY[i] = i + 1;
        }
        row();
        walk();
        round();
        triangle();
        bestRise();
        narrowest();
        twos();
        paired();
        halves();
        steady();
        comes();
        rests();
        Due.end();
    }

    private static void fed(int... bytes) {
        Feed.empty(x);
        Feed.bytes(x, bytes);
    }

    /** Behind a call that took its numbers nothing is left; behind a refused one all is. */
    private static void taken(String call, long got, long want) {
        Due.is(call, got, want);
        Due.is("bytes behind " + call, x.count(5), 0);
    }

    private static void refused(String call, long got, long want) {
        Due.is(call, got, want);
        Due.is("bytes behind " + call, x.count(5), MANY.length);
    }

    private static void rowOf(int[] numbers, int depth, long on) {
        int[] bytes = new int[2 * numbers.length];
        for (int i = 0; i < numbers.length; i++) {
            bytes[2 * i] = numbers[i] >> 8;
            bytes[2 * i + 1] = numbers[i] & 255;
        }
        fed(bytes);
        taken("row(" + numbers.length + ", 0)", x.row(numbers.length, 0), depth);
        fed(bytes);
        taken("row(" + numbers.length + ", 1)", x.row(numbers.length, 1), on);
    }

    private static void row() {
        rowOf(new int[] {1, 4, 9, 16}, 2, 25);
        rowOf(new int[] {7, 7}, 0, 7);
        rowOf(new int[] {300, 200}, 1, 100);
        rowOf(new int[] {0, 65535}, 1, 131070);
        rowOf(new int[] {65535, 0}, 1, -65535);
        rowOf(new int[] {1, 2, 4}, 2, 7);
        rowOf(new int[] {1, 8, 27, 64, 125}, 3, 216);
        rowOf(new int[] {3, 3, 3, 3, 3, 3, 3, 3, 3, 3, 3, 3}, 0, 3);
        rowOf(new int[] {0, 65535, 0, 65535, 0, 65535, 0, 65535, 0, 65535, 0, 65535}, 11, 134215680L);
        rowOf(new int[] {65535, 0, 65535, 0, 65535, 0, 65535, 0, 65535, 0, 65535, 0}, 11, -134150145L);
        fed(MANY);
        refused("row(1, 0)", x.row(1, 0), Long.MIN_VALUE);
        refused("row(13, 0)", x.row(13, 0), Long.MIN_VALUE);
        refused("row(2, 2)", x.row(2, 2), Long.MIN_VALUE);
        refused("row(2, -1)", x.row(2, -1), Long.MIN_VALUE);
        refused("row(MIN, 0)", x.row(Integer.MIN_VALUE, 0), Long.MIN_VALUE);
        refused("row(2^31 / 2 + 2, 0)", x.row(1073741826, 0), Long.MIN_VALUE);
        taken("row(12, 0)", x.row(12, 0), 1);
        fed(0, 1, 0, 2, 0, 4);
        Due.is("row(11, 0) of 20 bytes", x.row(11, 0), Long.MIN_VALUE);
        taken("row(10, 0) of 20 bytes", x.row(10, 0), 9);
    }

    private static void walkOf(int[] bytes, int end, int most, int least, int turns) {
        int[] want = {end, most, least, turns};
        for (int what = 0; what < 4; what++) {
            fed(bytes);
            taken("walk(" + bytes.length + ", " + what + ")", x.walk(bytes.length, what), want[what]);
        }
    }

    private static void walk() {
        walkOf(new int[] {5, 253, 0, 2}, 4, 5, 0, 2);
        walkOf(new int[] {128}, -128, 0, -128, 0);
        walkOf(new int[] {127}, 127, 127, 0, 0);
        walkOf(new int[] {0, 0, 0}, 0, 0, 0, 0);
        walkOf(new int[] {255, 0, 1, 0, 255}, -1, 0, -1, 2);
        walkOf(new int[] {1, 0, 1}, 2, 2, 0, 0);
        walkOf(new int[] {246, 246, 30, 1, 200}, -45, 11, -45, 2);
        int[] far = new int[20];
        for (int i = 0; i < 20; i++) {
            far[i] = 128;
        }
        walkOf(far, -2560, 0, -2560, 0);
        fed(MANY);
        refused("walk(0, 0)", x.walk(0, 0), -1000000);
        refused("walk(21, 0)", x.walk(21, 0), -1000000);
        refused("walk(1, 4)", x.walk(1, 4), -1000000);
        refused("walk(1, -1)", x.walk(1, -1), -1000000);
        Feed.empty(x);
        Due.is("walk of none", x.walk(1, 0), -1000000);
    }

    private static void roundOf(int[] bytes, int never, int ring, int ahead) {
        int[] want = {never, ring, ahead};
        for (int what = 0; what < 3; what++) {
            fed(bytes);
            taken("round(" + bytes.length + ", " + what + ")", x.round(bytes.length, what), want[what]);
        }
    }

    private static void round() {
        roundOf(new int[] {1, 0, 0, 0}, 4, 1, 4);
        roundOf(new int[] {1, 1, 0}, -2, 3, 0);
        roundOf(new int[] {0, 0}, 0, 1, 0);
        roundOf(new int[] {5, 2, 0}, -2, 3, 4);
        roundOf(new int[] {3, 5}, 2, 1, 2);
        roundOf(new int[] {9, 9, 9}, 1, 1, 1);
        roundOf(new int[] {255, 0, 0, 0, 0, 0, 0, 255}, 7, 1, 7);
        roundOf(new int[] {255, 0, 0, 0, 0, 0, 0, 0}, 8, 1, 8);
        roundOf(new int[] {1, 0, 0, 0, 0}, -2, 15, 1);
        roundOf(new int[] {1, 1, 0, 0, 0, 0, 0}, -2, 7, 0);
        fed(MANY);
        refused("round(1, 0)", x.round(1, 0), -1);
        refused("round(9, 0)", x.round(9, 0), -1);
        refused("round(3, 3)", x.round(3, 3), -1);
        refused("round(3, -1)", x.round(3, -1), -1);
        Feed.empty(x);
        Due.is("round of none", x.round(2, 0), -1);
    }

    private static void triangle() {
        int[] many = {1, 4, 8, 8};
        int[][] first = {{1, -4, -4, -4}, {1, 3, -4, -4}, {1, 6, 4, -4}, {6, 1, 10, 8}};
        for (int lines = 1; lines <= 4; lines++) {
            Due.is("triangle(" + lines + ", 100)", x.triangle(lines, 100), many[lines - 1]);
            for (int what = 0; what < 4; what++) {
                Due.is("triangle(" + lines + ", " + what + ")", x.triangle(lines, what), first[lines - 1][what]);
            }
            Due.is("triangle(" + lines + ", 4)", x.triangle(lines, 4), -1);
            Due.is("triangle(" + lines + ", -1)", x.triangle(lines, -1), -1);
            Due.is("triangle(" + lines + ", 99)", x.triangle(lines, 99), -1);
            Due.is("triangle(" + lines + ", 101)", x.triangle(lines, 101), -1);
        }
        Due.is("triangle(0, 100)", x.triangle(0, 100), -1);
        Due.is("triangle(5, 100)", x.triangle(5, 100), -1);
        Due.is("triangle(5, 0)", x.triangle(5, 0), -1);
        Due.is("triangle(-1, 0)", x.triangle(-1, 0), -1);
    }

    private static void riseOf(int[] bytes, int... want) {
        for (int bargains = 1; bargains <= 3; bargains++) {
            fed(bytes);
            taken("bestRise(" + bytes.length + ", " + bargains + ")",
                    x.bestRise(bytes.length, bargains), want[bargains - 1]);
        }
    }

    private static void bestRise() {
        riseOf(new int[] {1, 5, 2, 8}, 7, 10, 10);
        riseOf(new int[] {5, 4, 3}, 0, 0, 0);
        riseOf(new int[] {3}, 0, 0, 0);
        riseOf(new int[] {0, 255}, 255, 255, 255);
        riseOf(new int[] {1, 4, 2, 5, 3, 6, 4, 7}, 6, 8, 10);
        riseOf(new int[] {1, 2, 3, 4}, 3, 3, 3);
        riseOf(new int[] {10, 1, 4, 0, 9, 8, 20, 3, 7}, 20, 24, 27);
        fed(MANY);
        refused("bestRise(1, 0)", x.bestRise(1, 0), -1);
        refused("bestRise(1, 4)", x.bestRise(1, 4), -1);
        refused("bestRise(0, 1)", x.bestRise(0, 1), -1);
        refused("bestRise(21, 1)", x.bestRise(21, 1), -1);
        taken("bestRise(20, 1)", x.bestRise(20, 1), 19);
        Due.is("bestRise of none", x.bestRise(1, 1), -1);
    }

    private static void narrowestOf(int want, int out, int... bytes) {
        fed(bytes);
        taken("narrowest(" + bytes.length + ", " + out + ")", x.narrowest(bytes.length, out), want);
    }

    private static void narrowest() {
        narrowestOf(8, 0, 1, 9, 4, 5);
        narrowestOf(4, 1, 1, 9, 4, 5);
        narrowestOf(1, 2, 1, 9, 4, 5);
        narrowestOf(0, 3, 1, 9, 4, 5);
        narrowestOf(0, 0, 77);
        narrowestOf(255, 0, 255, 0);
        narrowestOf(2, 3, 0, 100, 101, 102, 200, 255);
        fed(MANY);
        refused("narrowest(3, 3)", x.narrowest(3, 3), -1);
        refused("narrowest(3, -1)", x.narrowest(3, -1), -1);
        refused("narrowest(0, 0)", x.narrowest(0, 0), -1);
        refused("narrowest(21, 0)", x.narrowest(21, 0), -1);
        taken("narrowest(20, 19)", x.narrowest(20, 19), 0);
        Due.is("narrowest of none", x.narrowest(1, 0), -1);
    }

    private static void twosOf(int want, int apart, int... bytes) {
        fed(bytes);
        taken("twos(" + bytes.length + ", " + apart + ")", x.twos(bytes.length, apart), want);
    }

    private static void twos() {
        twosOf(4, 3, 1, 4, 7, 4);
        twosOf(1, 0, 1, 4, 7, 4);
        twosOf(1, 6, 1, 4, 7, 4);
        twosOf(0, 1, 1, 4, 7, 4);
        twosOf(1, 255, 255, 0);
        twosOf(0, 0, 9);
        twosOf(190, 0, new int[20]);
        fed(MANY);
        refused("twos(1, -1)", x.twos(1, -1), -1);
        refused("twos(1, 256)", x.twos(1, 256), -1);
        refused("twos(0, 0)", x.twos(0, 0), -1);
        refused("twos(21, 0)", x.twos(21, 0), -1);
        Feed.empty(x);
        Due.is("twos of none", x.twos(1, 0), -1);
    }

    private static void pairedOf(int all, int greatest, int... bytes) {
        fed(bytes);
        taken("paired(" + bytes.length + ", 0)", x.paired(bytes.length, 0), all);
        fed(bytes);
        taken("paired(" + bytes.length + ", 1)", x.paired(bytes.length, 1), greatest);
    }

    private static void paired() {
        pairedOf(7, 4, 1, 9, 4, 5);
        pairedOf(255, 255, 0, 255);
        pairedOf(0, 0, 8, 8);
        pairedOf(8, 1, 15, 0, 14, 1, 13, 2, 12, 3, 11, 4, 10, 5, 9, 6, 8, 7);
        fed(MANY);
        refused("paired(3, 0)", x.paired(3, 0), -1);
        refused("paired(0, 0)", x.paired(0, 0), -1);
        refused("paired(1, 0)", x.paired(1, 0), -1);
        refused("paired(17, 0)", x.paired(17, 0), -1);
        refused("paired(18, 0)", x.paired(18, 0), -1);
        refused("paired(4, 2)", x.paired(4, 2), -1);
        refused("paired(4, -1)", x.paired(4, -1), -1);
        Feed.empty(x);
        Due.is("paired of none", x.paired(2, 0), -1);
    }

    private static void halvesOf(int much, int which, int... bytes) {
        fed(bytes);
        taken("halves(" + bytes.length + ", 0)", x.halves(bytes.length, 0), much);
        fed(bytes);
        taken("halves(" + bytes.length + ", 1)", x.halves(bytes.length, 1), which);
    }

    private static void halves() {
        halvesOf(0, 10, 3, 1, 1, 3, 0);
        halvesOf(8, 2, 9, 1);
        halvesOf(0, 0, 0, 0);
        halvesOf(0, 2, 5, 5);
        halvesOf(255, 0, 255, 0);
        halvesOf(1, 2, 0, 1, 2, 0, 0);
        halvesOf(0, 6, 6, 3, 3);
        halvesOf(2, 26, 10, 4, 6, 7, 3, 0);
        int[] most = new int[16];
        for (int i = 0; i < 16; i++) {
            most[i] = 255;
        }
        halvesOf(0, 510, most);
        most[15] = 254;
        halvesOf(1, 510, most);
        fed(MANY);
        refused("halves(1, 0)", x.halves(1, 0), -1);
        refused("halves(17, 0)", x.halves(17, 0), -1);
        refused("halves(2, 2)", x.halves(2, 2), -1);
        refused("halves(2, -1)", x.halves(2, -1), -1);
        Feed.empty(x);
        Due.is("halves of none", x.halves(2, 0), -1);
    }

    private static void steadyOf(int steady, int unsteady, int... bytes) {
        fed(bytes);
        taken("steady(" + bytes.length + ", 0)", x.steady(bytes.length, 0), steady);
        fed(bytes);
        taken("steady(" + bytes.length + ", 1)", x.steady(bytes.length, 1), unsteady);
    }

    private static void steady() {
        steadyOf(4, 4, 1, 3, 5, 4, 7);
        steadyOf(2, 1, 2, 2);
        steadyOf(1, 1, 9);
        steadyOf(2, 2, 9, 0);
        steadyOf(4, 5, 9, 1, 7, 5, 2, 3);
        steadyOf(20, 1, new int[20]);
        steadyOf(3, 6, 1, 200, 1, 200, 1, 200);
        steadyOf(5, 2, 255, 204, 153, 102, 51, 50);
        fed(MANY);
        refused("steady(1, 2)", x.steady(1, 2), -1);
        refused("steady(1, -1)", x.steady(1, -1), -1);
        refused("steady(0, 0)", x.steady(0, 0), -1);
        refused("steady(21, 0)", x.steady(21, 0), -1);
        Feed.empty(x);
        Due.is("steady of none", x.steady(1, 0), -1);
    }

    private static void comesOf(int many, int last, int... bytes) {
        fed(bytes);
        taken("comes(" + bytes.length + ", 0)", x.comes(bytes.length, 0), many);
        fed(bytes);
        taken("comes(" + bytes.length + ", 1)", x.comes(bytes.length, 1), last);
    }

    private static void comes() {
        comesOf(0, 0, 7);
        comesOf(0, 0, 2, 4);
        comesOf(1, 1, 6, 2);
        comesOf(3, 1, 10, 4);
        comesOf(253, 1, 255, 1);
        comesOf(247, 1, 255, 1, 2, 3, 4, 5, 6, 7);
        comesOf(-3, -3, 0);
        comesOf(-3, -3, 5, 0);
        comesOf(-3, -3, 5, 6, 5);
        fed(MANY);
        refused("comes(1, 2)", x.comes(1, 2), -1);
        refused("comes(1, -1)", x.comes(1, -1), -1);
        refused("comes(0, 0)", x.comes(0, 0), -1);
        refused("comes(9, 0)", x.comes(9, 0), -1);
        Feed.empty(x);
        Due.is("comes of none", x.comes(1, 0), -1);
    }

    private static void restsOf(int m, int least, int most, int... bytes) {
        fed(bytes);
        taken("rests(" + bytes.length + ", " + m + ", 0)", x.rests(bytes.length, m, 0), least);
        fed(bytes);
        taken("rests(" + bytes.length + ", " + m + ", 1)", x.rests(bytes.length, m, 1), most);
    }

    private static void rests() {
        restsOf(7, 1, 1, 1, 2, 4);
        restsOf(13, 1, 1, 0, 1, 3, 9);
        restsOf(2, 2, 2, 0, 1);
        restsOf(4, 0, 2, 0, 2);
        restsOf(11, 2, 2, 1, 3, 4, 5, 9);
        restsOf(60, 0, 11, 0, 1, 2, 3, 4, 5, 6, 7, 8, 9, 10, 59);
        restsOf(7, -3, -3, 1, 7);
        restsOf(7, -3, -3, 1, 255);
        restsOf(7, -3, -3, 1, 2, 1);
        fed(MANY);
        refused("rests(2, 1, 0)", x.rests(2, 1, 0), -1);
        refused("rests(2, 61, 0)", x.rests(2, 61, 0), -1);
        refused("rests(1, 7, 0)", x.rests(1, 7, 0), -1);
        refused("rests(13, 60, 0)", x.rests(13, 60, 0), -1);
        refused("rests(2, 7, 2)", x.rests(2, 7, 2), -1);
        refused("rests(2, 7, -1)", x.rests(2, 7, -1), -1);
        Feed.empty(x);
        Due.is("rests of none", x.rests(2, 7, 0), -1);
    }
}
