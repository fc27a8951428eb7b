/**
 * The edges of every argument of every call: the outermost that are answered, the first that are refused, and the
 * ends of int. Behind a refused call the tape holds what it held; behind one that takes from it, it is empty.
 */
public final class ArgumentEdgesTest {
    private static final int MIN = Integer.MIN_VALUE;
    private static final int MAX = Integer.MAX_VALUE;
    /** Twenty bytes, so that every call of feed can be the same; as CLAIMS they are three. */
    private static final String ON_TAPE = "a-b=5;b-c<4;c-d>0007";
    private static final int FULL = 260;

    /** A call with one number that is looked at. */
    private interface Call {
        long of(OnlyDifferences x, int n);
    }

    public static void main(String[] args) {
        tapeLengths();
        tapeOthers();
        things();
        whats();
        bitsAndMost();
        stalls();
        days();
        numbers();
        fed();
        Due.end();
    }

    private static OnlyDifferences withTape(int bytes) {
        OnlyDifferences x = new OnlyDifferences();
        for (int i = 0; i < bytes; i += 20) {
            Feed.text(x, ON_TAPE);
        }
        Due.is("bytes fed", x.count(5), bytes);
        return x;
    }

    private static void tapeStays(String call, OnlyDifferences x, int bytes) {
        Due.is("bytes behind " + call, x.count(5), bytes);
        if (bytes >= 20) {
            Due.is("what is on the tape behind " + call, x.claims(20), 3);
        }
    }

    // How many bytes: too few, too many, more than the tape has, and of every length that the tape can have.

    private static void tapeLengths() {
        takes("law", 1, 240, 1, -1, (x, n) -> x.law(n));
        takes("claims", 1, 250, 1, -1, (x, n) -> x.claims(n));
        takes("stock", 1, 160, 1, -1, (x, n) -> x.stock(n));
        takes("row, 0", 2, 12, 2, Long.MIN_VALUE, (x, n) -> x.row(n, 0));
        takes("row, 1", 2, 12, 2, Long.MIN_VALUE, (x, n) -> x.row(n, 1));
        takes("walk, 0", 1, 20, 1, -1000000, (x, n) -> x.walk(n, 0));
        takes("walk, 3", 1, 20, 1, -1000000, (x, n) -> x.walk(n, 3));
        takes("round, 0", 2, 8, 1, -1, (x, n) -> x.round(n, 0));
        takes("round, 2", 2, 8, 1, -1, (x, n) -> x.round(n, 2));
        takes("bestRise, 1", 1, 20, 1, -1, (x, n) -> x.bestRise(n, 1));
        takes("bestRise, 3", 1, 20, 1, -1, (x, n) -> x.bestRise(n, 3));
        takes("narrowest, 0", 1, 20, 1, -1, (x, n) -> x.narrowest(n, 0));
        takes("narrowest, n - 1", 1, 20, 1, -1, (x, n) -> x.narrowest(n, n - 1));
        takes("twos, 0", 1, 20, 1, -1, (x, n) -> x.twos(n, 0));
        takes("twos, 255", 1, 20, 1, -1, (x, n) -> x.twos(n, 255));
        takes("halves, 0", 2, 16, 1, -1, (x, n) -> x.halves(n, 0));
        takes("halves, 1", 2, 16, 1, -1, (x, n) -> x.halves(n, 1));
        takes("steady, 0", 1, 20, 1, -1, (x, n) -> x.steady(n, 0));
        takes("steady, 1", 1, 20, 1, -1, (x, n) -> x.steady(n, 1));
        takes("comes, 0", 1, 8, 1, -1, (x, n) -> x.comes(n, 0));
        takes("comes, 1", 1, 8, 1, -1, (x, n) -> x.comes(n, 1));
        takes("rests, 2", 2, 12, 1, -1, (x, n) -> x.rests(n, 2, 0));
        takes("rests, 60", 2, 12, 1, -1, (x, n) -> x.rests(n, 60, 1));
        takes("check", 0, 8, 1, -2, (x, n) -> x.check(n));
        pairedTakes();
    }

    private static void takes(String call, int least, int most, int size, long refused, Call taking) {
        for (int bytes = 0; bytes <= FULL; bytes += 20) {
            for (int n = -1; n <= most + 20; n++) {
                boolean isTaken = n >= least && n <= most && n * size <= bytes;
                take(call, bytes, n, isTaken, refused, taking);
            }
            for (int n : new int[] {MIN, MIN + 1, MIN + least, -256, 65537, MAX / 2 + 2, MAX - 1, MAX}) {
                take(call, bytes, n, false, refused, taking);
            }
        }
    }

    private static void take(String call, int bytes, int n, boolean isTaken, long refused, Call taking) {
        OnlyDifferences x = withTape(bytes);
        String told = call + " of " + n + " with " + bytes + " bytes";
        long answer = taking.of(x, n);
        if (isTaken) {
            Due.is("bytes behind " + told, x.count(5), 0);
            Due.is("refused: " + told, answer == refused, false);
        } else {
            Due.is(told, answer, refused);
            tapeStays(told, x, bytes);
        }
    }

    /** n 2 to 16, even. */
    private static void pairedTakes() {
        for (int bytes = 0; bytes <= FULL; bytes += 20) {
            for (int n = -2; n <= 36; n++) {
                boolean isTaken = n >= 2 && n <= 16 && n % 2 == 0 && n <= bytes;
                take("paired, 0", bytes, n, isTaken, -1, (x, many) -> x.paired(many, 0));
                take("paired, 1", bytes, n, isTaken, -1, (x, many) -> x.paired(many, 1));
            }
        }
    }

    // What else such a call is given: beyond its bounds it is refused, though the bytes are there.

    private static void tapeOthers() {
        second("row", 0, 1, Long.MIN_VALUE, (x, what) -> x.row(2, what));
        second("walk", 0, 3, -1000000, (x, what) -> x.walk(1, what));
        second("round", 0, 2, -1, (x, what) -> x.round(2, what));
        second("bestRise", 1, 3, -1, (x, bargains) -> x.bestRise(20, bargains));
        second("narrowest of 1", 0, 0, -1, (x, out) -> x.narrowest(1, out));
        second("narrowest of 2", 0, 1, -1, (x, out) -> x.narrowest(2, out));
        second("narrowest of 20", 0, 19, -1, (x, out) -> x.narrowest(20, out));
        second("twos", 0, 255, -1, (x, apart) -> x.twos(20, apart));
        second("paired", 0, 1, -1, (x, what) -> x.paired(16, what));
        second("halves", 0, 1, -1, (x, what) -> x.halves(16, what));
        second("steady", 0, 1, -1, (x, what) -> x.steady(20, what));
        second("comes", 0, 1, -1, (x, what) -> x.comes(8, what));
        second("rests modulo", 2, 60, -1, (x, m) -> x.rests(12, m, 0));
        second("rests what", 0, 1, -1, (x, what) -> x.rests(12, 60, what));
    }

    private static void second(String call, int least, int most, long refused, Call taking) {
        for (int other : around(least, most)) {
            take(call, 40, other, other >= least && other <= most, refused, taking);
        }
    }

    private static int[] around(int least, int most) {
        return new int[] {MIN, MIN + 1, -65536, -1000, -256, least - 2, least - 1, least, most, most + 1, most + 2,
            most + 256, most + 65536, MAX - 1, MAX};
    }

    // Calls that take nothing from the tape: it stays, whatever they answer.

    private static void range(String call, int least, int most, long refused, Call asked) {
        for (int n : around(least, most)) {
            OnlyDifferences x = withTape(40);
            boolean isRefused = asked.of(x, n) == refused;
            Due.is("refused: " + call + " of " + n, isRefused, n < least || n > most);
            tapeStays(call, x, 40);
        }
    }

    private static void things() {
        range("known(n, n)", 0, 11, -1000000, (x, n) -> x.known(n, n));
        range("bound(n, n)", 0, 11, -1000000, (x, n) -> x.bound(n, n));
        range("bound(n, 5)", 0, 11, -1000000, (x, n) -> x.bound(n, 5));
        range("bound(5, n)", 0, 11, -1000000, (x, n) -> x.bound(5, n));
        range("surely(n, 0)", 0, 11, -1, (x, n) -> x.surely(n, 0));
        range("surely(n, 1)", 0, 11, -1, (x, n) -> x.surely(n, 1));
        range("lightest(n)", 0, 11, -1, (x, n) -> x.lightest(n));
        range("groups(n)", 0, 11, -1, (x, n) -> x.groups(n));
        range("groups(100)", 100, 100, -1, (x, n) -> x.groups(n));
        range("claimIs(n, 3) of none", 0, -1, -100000, (x, n) -> x.claimIs(n, 3));
        range("slack(n) of none", 0, -1, -1000000, (x, n) -> x.slack(n));
        for (int what = 0; what < 4; what++) {
            int asked = what;
            range("claimIs(n, " + what + ")", 0, 2, -100000, (x, n) -> of(x).claimIs(n, asked));
        }
        range("claimIs(2, n)", 0, 3, -100000, (x, n) -> of(x).claimIs(2, n));
        range("slack(n)", 0, 2, -1000000, (x, n) -> of(x).slack(n));
        for (int n : new int[] {MIN, -12, -1, 12, 13, 144, MAX}) {
            Due.is("known(" + n + ", 1)", of(withTape(40)).known(n, 1), -1000000);
            Due.is("known(0, " + n + ")", of(withTape(40)).known(0, n), -1000000);
        }
    }

    /** The CLAIMS of the tape, told, and the tape as it was. */
    private static OnlyDifferences of(OnlyDifferences x) {
        int bytes = x.count(5);
        Due.is("claims", x.claims(20), 3);
        for (int i = 0; i < bytes; i += 20) {
            Feed.text(x, ON_TAPE);
        }
        return x;
    }

    private static void whats() {
        range("canBe(n)", 0, 2, -1, (x, n) -> x.canBe(n));
        range("idle(n)", 0, 1, -1, (x, n) -> x.idle(n));
        range("surely(11, n)", 0, 1, -1, (x, n) -> x.surely(11, n));
        range("chain(n)", 0, 1, -1, (x, n) -> x.chain(n));
        range("count(n)", 0, 8, -1, (x, n) -> x.count(n));
        for (int lines = 1; lines <= 4; lines++) {
            int asked = lines;
            range("triangle(" + lines + ", n)", 0, 3, -1, (x, n) -> x.triangle(asked, n));
            range("triangle(" + lines + ", 100)", 100, 100, -1, (x, n) -> x.triangle(asked, n));
        }
        range("triangle(n, 0)", 1, 4, -1, (x, n) -> x.triangle(n, 0));
        range("triangle(n, 100)", 1, 4, -1, (x, n) -> x.triangle(n, 100));
    }

    private static void bitsAndMost() {
        range("orders(n)", 0, 4095, -1, (x, n) -> x.orders(n));
        range("weighings(1, n)", 0, 9, -1, (x, n) -> x.weighings(1, n));
        range("weighings(2048, n)", 0, 9, -1, (x, n) -> x.weighings(2048, n));
        for (int bits = -20; bits < 4200; bits++) {
            boolean isRefused = bits < 1 || bits > 4095 || Integer.bitCount(bits) > 4;
            int ways = new OnlyDifferences().weighings(bits, 0);
            Due.is("weighings(" + bits + ", 0)", ways, isRefused ? -1 : 1);
        }
        for (int bits : new int[] {MIN, MIN + 1, 1 << 30, 8192, 65536, MAX}) {
            Due.is("weighings(" + bits + ", 0)", new OnlyDifferences().weighings(bits, 0), -1);
        }
    }

    private static void stalls() {
        for (int k = 0; k < 8; k++) {
            oneStall(k);
        }
    }

    /** STALL k told alone: it is answered, each other one is refused. */
    private static void oneStall(int k) {
        String stock = k + ":9-1";
        for (int what = 0; what < 4; what++) {
            int asked = what;
            range("stallIs(n, " + what + ") of " + stock, k, k, -1, (x, n) -> stocked(x, stock).stallIs(n, asked));
        }
        range("stallIs(k, n) of " + stock, 0, 3, -1, (x, n) -> stocked(x, stock).stallIs(k, n));
        range("soonest(n, 9) of " + stock, k, k, -1, (x, n) -> stocked(x, stock).soonest(n, 9));
        range("soonest(k, n) of " + stock, 1, 100, -1, (x, n) -> stocked(x, stock).soonest(k, n));
        range("tried(n, 0) of " + stock, 1, 100, -1, (x, n) -> stocked(x, stock).tried(n, 0));
        for (int what = -1; what <= 40; what++) {
            boolean isRefused = what < 0 || what > 2 && what != 10 + k && what != 20 + k;
            int answer = stocked(new OnlyDifferences(), stock).tried(1, what);
            Due.is("refused: tried(1, " + what + ") of " + stock, answer == -1, isRefused);
        }
        for (int what : new int[] {MIN, MIN + 10, -10, -20, 100, 110 + k, 120 + k, MAX}) {
            Due.is("tried(1, " + what + ")", stocked(new OnlyDifferences(), stock).tried(1, what), -1);
        }
    }

    private static OnlyDifferences stocked(OnlyDifferences x, String stock) {
        int bytes = x.count(5);
        Feed.empty(x);
        Feed.stock(x, stock);
        for (int i = 0; i < bytes; i += 20) {
            Feed.text(x, ON_TAPE);
        }
        return x;
    }

    private static void days() {
        range("days(n)", 1, 100, -1, (x, n) -> x.days(n));
        range("tried(n, 1)", 1, 100, -1, (x, n) -> x.tried(n, 1));
        for (int n : around(1, 100)) {
            OnlyDifferences x = stocked(new OnlyDifferences(), "0:9999-0");
            x.days(n);
            boolean isGone = n >= 1 && n <= 100;
            Due.is("THE DAY behind days(" + n + ")", x.count(0), isGone ? n : 0);
            Due.is("UPPER behind days(" + n + ")", x.stallIs(0, 0), isGone ? 9999 - 5 * n : 9999);
            Due.is("X as it was behind days(" + n + ")", x.count(6) == 1, !isGone);
        }
    }

    private static void numbers() {
        for (int seed : around(0, 65535)) {
            OnlyDifferences x = withTape(40);
            boolean isTaken = seed >= 0 && seed <= 65535;
            Due.is("seed(" + seed + ")", x.seed(seed), isTaken);
            Due.is("X behind seed(" + seed + ")", x.count(6), isTaken ? seed : 1);
            tapeStays("seed", x, 40);
        }
    }

    // Each number on its own, its ends too, and the tape full.

    private static void fed() {
        for (int place = 0; place < 5; place++) {
            for (int number : new int[] {MIN, MAX, -1, 0, 1, 0x80, 0xff00, 0x01020304, 0xfefdfcfb}) {
                oneOfFive(place, number);
            }
        }
        OnlyDifferences x = withTape(FULL);
        Due.is("a byte too many", x.feed(MIN, MAX, -1, 0, 1), -1);
        tapeStays("a refused feed", x, FULL);
        Due.is("empty again", x.feed(0, 0, 0, 0, 0), 20);
        x = withTape(FULL - 20);
        Due.is("the last that fits", x.feed(0, 0, 0, 0, 0), FULL);
    }

    private static void oneOfFive(int place, int number) {
        int[] five = new int[5];
        five[place] = number;
        for (int i = 0; i < 4; i++) {
            OnlyDifferences x = new OnlyDifferences();
            Due.is("feed", x.feed(five[0], five[1], five[2], five[3], five[4]), 20);
            // The walk up to a byte less the walk up to the one ahead is that byte.
            int ahead = 0;
            if (4 * place + i > 0) {
                ahead = x.walk(4 * place + i, 0);
                x.feed(five[0], five[1], five[2], five[3], five[4]);
            }
            Due.is("byte " + i + " of " + number, x.walk(4 * place + i + 1, 0) - ahead, (byte) (number >> 24 - 8 * i));
        }
    }
}
