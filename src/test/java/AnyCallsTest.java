import java.util.Random;

/** Any calls with any arguments: none throws or hangs, and one that is refused changes nothing. */
public final class AnyCallsTest {
    private static final int CALLS = 36;
    private static final String[] TEXTS = {
        "a-b=5;c-d<3;d-e>-2", "a-b<0;b-a<-1;c-d=2", "b-a>1;c-b>1;d-c>1;e-d>1", "a-b=1;a-b=2", "l-k=-9999;k-j=0",
        "0:50-20;3:9-9;7:900-1", "1:5-0", "0:5-6", "v8(k=0);y3(k<2);r9*n(0=0);x(w<2)", "v1/0(!(u=l)|1%0=0)",
        "r[u+1]*t(0=0);vw(g>m&o<3)", "v5(0=0",
    };

    private static Random random = new Random(512);
    private static OnlyDifferences x;

    public static void main(String[] args) {
        for (int run = 0; run < 1500; run++) {
            x = new OnlyDifferences();
            for (int call = 0; call < 500; call++) {
                step();
            }
        }
        Due.end();
    }

    private static int drawn() {
        switch (random.nextInt(12)) {
            case 0:
                return random.nextInt();
            case 1:
                return Integer.MIN_VALUE + random.nextInt(3);
            case 2:
                return Integer.MAX_VALUE - random.nextInt(3);
            case 3:
                return -random.nextInt(4);
            case 4:
                return random.nextInt(5000);
            case 5:
                return random.nextInt(270);
            default:
                return random.nextInt(22);
        }
    }

    private static void step() {
        if (random.nextInt(6) == 0) {
            String text = TEXTS[random.nextInt(TEXTS.length)];
            if (random.nextBoolean()) {
                Feed.empty(x);
            }
            Feed.text(x, text);
            if (random.nextBoolean()) {
                int n = random.nextInt(5) == 0 ? random.nextInt(text.length() + 1) : text.length();
                int ignored = "vr".indexOf(text.charAt(0)) >= 0 ? x.law(n)
                        : Character.isDigit(text.charAt(0)) ? x.stock(n) : x.claims(n);
            }
            return;
        }
        int which = random.nextInt(CALLS);
        int a = drawn();
        int b = drawn();
        int c = drawn();
        long before = seen();
        int bytes = x.count(5);
        boolean wasRefused = call(which, a, b, c);
        if (wasRefused) {
            Due.is("state behind refused call " + which + " of " + a + ", " + b + ", " + c, seen(), before);
            Due.is("tape behind refused call " + which + " of " + a + ", " + b + ", " + c, x.count(5), bytes);
        } else if (which < 27) {
            Due.is("state behind asking " + which + " of " + a + ", " + b + ", " + c, seen(), before);
        }
    }

    /** Those below 27 ask alone (though some take from the tape); whether it was refused. */
    private static boolean call(int which, int a, int b, int c) {
        switch (which) {
            case 0:
                return x.known(a, b) == -2;
            case 1:
                return x.groups(a) == -1;
            case 2:
                return x.bound(a, b) == -2;
            case 3:
                return x.canBe(a) == -1;
            case 4:
                return x.idle(a) == -1;
            case 5:
                return x.surely(a, b) == -1;
            case 6:
                return x.lightest(a) == -1;
            case 7:
                return x.slack(a) == -1000000;
            case 8:
                return x.chain(a) == -1;
            case 9:
                return x.orders(a) == -1;
            case 10:
                return x.weighings(a, b) == -1;
            case 11:
                return x.claimIs(a, b) == -100000;
            case 12:
                return x.row(a, b) == Long.MIN_VALUE;
            case 13:
                return x.walk(a, b) == -1000000;
            case 14:
                return x.round(a, b) == -1;
            case 15:
                return x.triangle(a, b) == -1;
            case 16:
                return x.bestRise(a, b) == -1;
            case 17:
                return x.narrowest(a, b) == -1;
            case 18:
                return x.twos(a, b) == -1;
            case 19:
                return x.paired(a, b) == -1;
            case 20:
                return x.halves(a, b) == -1;
            case 21:
                return x.steady(a, b) == -1;
            case 22:
                return x.comes(a, b) == -1;
            case 23:
                return x.rests(a, b, c) == -1;
            case 24:
                return x.tried(a, b) == -1;
            case 25:
                return x.soonest(a, b) == -1;
            case 26:
                return x.stallIs(a, b) == -1;
            default:
                return change(which, a, b, c);
        }
    }

    private static boolean change(int which, int a, int b, int c) {
        switch (which) {
            case 27:
                return x.feed(a, b, c, a, b) == -1;
            case 28:
                return x.law(a) == -1;
            case 29:
                return x.claims(a) == -1;
            case 30:
                return x.stock(a) == -1;
            case 31:
                return x.days(a) == -1;
            case 32:
                return !x.seed(a);
            case 33:
                return x.keep() < 0;
            case 34:
                return !x.undo();
            default:
                return x.check(a) == -2;
        }
    }

    private static long seen() {
        long seen = 0;
        for (int what = 0; what < 9; what++) {
            seen = what == 5 ? seen : seen * 31 + x.count(what);
        }
        for (int k = 0; k < 8; k++) {
            for (int what = 0; what < 4; what++) {
                seen = seen * 31 + x.stallIs(k, what);
            }
        }
        for (int i = 0; i < 6; i++) {
            for (int what = 0; what < 4; what++) {
                seen = seen * 31 + x.claimIs(i, what);
            }
        }
        for (int thing = 0; thing < 12; thing++) {
            seen = seen * 31 + x.groups(thing) * 7 + x.bound(0, thing) + x.bound(thing, 1);
        }
        return seen;
    }
}
