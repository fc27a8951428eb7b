/** Promises 6 to 17 at their edges: none and all THINGS, the widest numbers, just 0 and just beyond it, like ones. */
public final class ClaimsEdgesTest {
    private static final int UNKNOWN = -1000000;
    private static final int UNBOUNDED = 1000000;
    /** By 9999 from each THING to the next one: a is the most, or the least. */
    private static final String DOWN = "a-b=9999;b-c=9999;c-d=9999;d-e=9999;e-f=9999;f-g=9999;g-h=9999;h-i=9999;"
            + "i-j=9999;j-k=9999;k-l=9999";
    private static final String UP = DOWN.replace("=", "=-");
    private static final int FAR = 11 * 9999;
    private static final String CANNOT_BE = "a-b<0;b-a<-1;c-d=7";

    public static void main(String[] args) {
        noClaims();
        known();
        groups();
        bound();
        justBelowNothing();
        ringsOfEachLength();
        ringsEitherWay();
        likeRings();
        idle();
        surely();
        lightest();
        slack();
        chain();
        orders();
        weighings();
        claimIs();
        cannotBe();
        replaced();
        replacedAgain();
        Due.end();
    }

    private static OnlyDifferences with(String text) {
        OnlyDifferences x = new OnlyDifferences();
        Due.is("claims " + text, Feed.claims(x, text), text.split(";").length);
        return x;
    }

    private static void noClaims() {
        OnlyDifferences x = new OnlyDifferences();
        Due.is("GROUPS", x.groups(100), 12);
        Due.is("CAN BE", x.canBe(0), 1);
        Due.is("no RING", x.canBe(1), -2);
        Due.is("no THINGS of it", x.canBe(2), -2);
        Due.is("IDLE", x.idle(0), 0);
        Due.is("no first IDLE", x.idle(1), -2);
        Due.is("A CHAIN: none is more", x.chain(0), 1);
        Due.is("its first: none is more", x.chain(1), 0);
        Due.is("SLACK", x.slack(0), UNKNOWN);
        Due.is("ORDERS of none", x.orders(0), 1);
        Due.is("ORDERS of all", x.orders(4095), 479001600);
        Due.is("WEIGHINGS", x.weighings(15, 9), 10000);
        for (int a = 0; a < 12; a++) {
            Due.is("GROUP of " + a, x.groups(a), 1 << a);
            Due.is("SURELY more", x.surely(a, 0), 0);
            Due.is("SURELY less", x.surely(a, 1), 0);
            Due.is("LIGHTEST", x.lightest(a), 0);
            Due.is("ORDERS of one", x.orders(1 << a), 1);
            for (int b = 0; b < 12; b++) {
                Due.is("KNOWN", x.known(a, b), a == b ? 0 : UNKNOWN);
                Due.is("BOUND", x.bound(a, b), a == b ? 0 : UNBOUNDED);
            }
        }
    }

    private static void known() {
        OnlyDifferences x = with(DOWN);
        OnlyDifferences y = with(UP);
        for (int a = 0; a < 12; a++) {
            for (int b = 0; b < 12; b++) {
                Due.is("KNOWN of " + a + " over " + b, x.known(a, b), 9999 * (b - a));
                Due.is("KNOWN of " + a + " over " + b, y.known(a, b), 9999 * (a - b));
            }
        }
        x = with("b-a=5;c-b=2;l-c=1");
        Due.is("hung on from the other side", x.known(11, 0), 8);
        Due.is("the other way", x.known(0, 2), -7);
        x = with("a-b=3;c-d=5;a-d=9;f-e=4;f-b=1");
        Due.is("by groups that are joined", x.known(1, 2), 1);
        Due.is("by groups that are joined last", x.known(4, 3), 3);
        x = with("a-b<3;a-b>3;c-d=0");
        Due.is("by those with = alone", x.known(0, 1), UNKNOWN);
        Due.is("just 0", x.known(2, 3), 0);
        Due.is("just 0, the other way", x.known(3, 2), 0);
        Due.is("of two groups", x.known(0, 2), UNKNOWN);
        Due.is("the same, in none with =", x.known(0, 0), 0);
        Due.is("the same, in none", x.known(11, 11), 0);
    }

    private static void groups() {
        OnlyDifferences x = with(DOWN);
        Due.is("one of all", x.groups(100), 1);
        Due.is("all of a", x.groups(0), 4095);
        Due.is("all of l", x.groups(11), 4095);
        x = with(DOWN.replace("=", "<"));
        Due.is("< hangs none together", x.groups(100), 12);
        Due.is("l alone", x.groups(11), 2048);
        x = with("a-b>1;a-b<1");
        Due.is("> and < hang none together", x.groups(100), 12);
        x = with("a-l=0;a-l=0");
        Due.is("the same again", x.groups(100), 11);
        Due.is("of the first and the last", x.groups(11), 2049);
        Due.is("one that is in no CLAIM", x.groups(5), 32);
        x = with("a-b=1;c-d=1;e-f=1;g-h=1;i-j=1;k-l=1");
        Due.is("six of two", x.groups(100), 6);
        Due.is("the last two", x.groups(10), 3072);
    }

    private static void bound() {
        OnlyDifferences x = with(DOWN.replace("=", "<"));
        OnlyDifferences y = with(DOWN.replace("=", ">"));
        for (int a = 0; a < 12; a++) {
            for (int b = 0; b < 12; b++) {
                Due.is("at most", x.bound(a, b), a <= b ? 9999 * (b - a) : UNBOUNDED);
                Due.is("at least", y.bound(a, b), a >= b ? 9999 * (b - a) : UNBOUNDED);
            }
        }
        Due.is("the most", x.bound(0, 11), FAR);
        Due.is("the least", y.bound(11, 0), -FAR);
        x = with("a-b<5;a-b<4;a-b<6");
        Due.is("the tightest of several", x.bound(0, 1), 4);
        x = with("a-b>5;a-b>4;a-b>6");
        Due.is("the tightest of several at least", x.bound(1, 0), -6);
        x = with("a-b<5;b-c<-5;a-c<1");
        Due.is("just 0 by two", x.bound(0, 2), 0);
        x = with("a-b=5");
        Due.is("just, one way", x.bound(0, 1), 5);
        Due.is("just, the other way", x.bound(1, 0), -5);
    }

    /** A sum round of just 0 can be; below it, it can't. */
    private static void justBelowNothing() {
        String[] just = {"a-b<7;b-a<-7", "a-b<7;a-b>7", "a-b=7;a-b<7", "a-b=7;a-b>7", "b-a>-7;a-b>7", "a-b=7;a-b=7"};
        String[] below = {"a-b<7;b-a<-8", "a-b<7;a-b>8", "a-b=7;a-b<6", "a-b=7;a-b>8", "b-a>-6;a-b>7", "b-a=-7;b-a<-8"};
        for (int i = 0; i < just.length; i++) {
            OnlyDifferences x = with(just[i]);
            Due.is("CAN BE of " + just[i], x.canBe(0), 1);
            Due.is("no RING of " + just[i], x.canBe(1), -2);
            Due.is("no THINGS of " + just[i], x.canBe(2), -2);
            Due.is("BOUND of " + just[i], x.bound(0, 0), 0);
            x = with(below[i]);
            Due.is("CAN BE of " + below[i], x.canBe(0), 0);
            Due.is("A RING of " + below[i], x.canBe(1), 2);
            Due.is("THINGS of " + below[i], x.canBe(2), 3);
        }
    }

    /** From two THINGS to all twelve, told by < and by >: each number is needed, so that no shorter one is. */
    private static void ringsOfEachLength() {
        for (int many = 2; many <= 12; many++) {
            StringBuilder most = new StringBuilder();
            StringBuilder least = new StringBuilder();
            for (int i = 0; i < many; i++) {
                char one = (char) ('l' - i);
                char next = (char) ('l' - (i + 1) % many);
                int much = i == many - 1 ? -1 : 0;
                most.append(i == 0 ? "" : ";").append(one).append('-').append(next).append('<').append(much);
                least.append(i == 0 ? "" : ";").append(one).append('-').append(next).append('>').append(-much);
            }
            for (String text : new String[] {most.toString(), least.toString()}) {
                OnlyDifferences x = with(text);
                Due.is("CAN BE of " + text, x.canBe(0), 0);
                Due.is("A RING of " + text, x.canBe(1), many);
                Due.is("THINGS of " + text, x.canBe(2), 4095 & -1 << 12 - many);
            }
            OnlyDifferences x = with(most.toString().replace("-1", "0"));
            Due.is("just 0 round " + many, x.canBe(0), 1);
        }
    }

    private static void ring(String text, int fewest, int things) {
        OnlyDifferences x = with(text);
        Due.is("CAN BE of " + text, x.canBe(0), 0);
        Due.is("A RING of " + text, x.canBe(1), fewest);
        Due.is("THINGS of " + text, x.canBe(2), things);
    }

    private static void ringsEitherWay() {
        ring("a-b=5;b-c=5;a-c<9", 3, 7);
        ring("b-a=-5;c-b=-5;a-c<9", 3, 7);
        ring("b-a=-5;b-c=5;c-a>-9", 3, 7);
        ring("a-b=5;b-c=5;c-d=5;d-e=5;a-e>21", 5, 31);
        ring(DOWN + ";a-l<9998", 12, 4095);
        ring(UP + ";a-l>-9998", 12, 4095);
        ring("k-l=1;k-l<0", 2, 3072);
        ring("a-b<1;a-b<2;a-b<3;a-b>2;a-b>3", 2, 3);
    }

    /** The fewest CLAIMS, not the lowest sum; of like ones the least bits, not the first told. */
    private static void likeRings() {
        ring("a-b<0;b-c<0;c-a<-9999;k-l<0;l-k<-1", 2, 3072);
        ring("k-l<0;l-k<-9;a-b<0;b-a<-1", 2, 3);
        ring("a-l<0;l-a<-9;b-c<0;c-b<-1", 2, 6);
        ring("j-k<0;k-l<0;l-j<-1;a-b<0;b-l<0;l-a<-1", 3, 1 | 2 | 2048);
        ring("a-k<0;k-l<0;l-a<-1;h-i<0;i-j<0;j-h<-1", 3, 1 << 7 | 1 << 8 | 1 << 9);
        ring("a-b<-1;b-a<-1;a-c<-1;c-a<-1;b-c<-1;c-b<-1", 2, 3);
        ring("a-c<-1;c-a<-1;b-c<-1;c-b<-1", 2, 5);
    }

    private static void idle(String text, int many, int first) {
        OnlyDifferences x = with(text);
        Due.is("IDLE of " + text, x.idle(0), many);
        Due.is("the first of " + text, x.idle(1), first);
    }

    private static void idle() {
        idle("a-b<1", 0, -2);
        idle("a-b=1", 0, -2);
        idle("a-b<1;a-b<1", 2, 0);
        idle("a-b<1;a-b<2", 1, 1);
        idle("a-b<2;a-b<1", 1, 0);
        idle("a-b<1;b-a>-1", 2, 0);
        idle("a-b<1;a-b>1;a-b=1", 3, 0);
        idle("a-b<1;a-b>1", 0, -2);
        idle("a-b<1;b-c<1;a-c<2", 1, 2);
        idle("a-b<1;b-c<1;a-c<1", 0, -2);
        idle("a-b=1;b-c=1;a-c=2", 3, 0);
        idle("a-b=1;a-b<1", 1, 1);
        idle("a-b=1;a-b>1", 1, 1);
        idle("a-b=1;a-b>0;a-b<2", 2, 1);
        idle("c-d<1;a-b<1" + ";a-b<1".repeat(38), 39, 1);
        StringBuilder text = new StringBuilder("l-a<5");
        for (int i = 1; i < 40; i++) {
            text.append(";").append((char) ('a' + i % 11)).append("-l<").append(i < 12 ? 0 : 1);
        }
        idle(text.toString(), 28, 12);
        idle("a-b<1;b-c<1;c-d<1;d-e<1;e-f<1;f-g<1;g-h<1;h-i<1;i-j<1;j-k<1;k-l<1;a-l<11", 1, 11);
        idle("a-b<1;b-c<1;c-d<1;d-e<1;e-f<1;f-g<1;g-h<1;h-i<1;i-j<1;j-k<1;k-l<1;a-l<10", 0, -2);
    }

    private static void surely() {
        OnlyDifferences x = with("a-b<-1;c-d<0;e-f=0;g-h>1;i-j>0");
        Due.is("more by one", x.surely(0, 0), 2);
        Due.is("less by one", x.surely(1, 1), 1);
        Due.is("more by none at least", x.surely(2, 0), 0);
        Due.is("like ones", x.surely(4, 0), 0);
        Due.is("like ones, less", x.surely(4, 1), 0);
        Due.is("at least one more", x.surely(7, 0), 64);
        Due.is("at least none more", x.surely(9, 0), 0);
        Due.is("none is more than itself", x.surely(0, 0) & 1, 0);
        x = with(DOWN);
        for (int thing = 0; thing < 12; thing++) {
            Due.is("more than " + thing, x.surely(thing, 0), (1 << thing) - 1);
            Due.is("less than " + thing, x.surely(thing, 1), 4095 & -2 << thing);
        }
        x = with("a-b<5;b-c<-6");
        Due.is("by two of which one tells none", x.surely(0, 0), 4);
        x = with("a-b<5;b-c<-5");
        Due.is("by two, just 0", x.surely(0, 0), 0);
    }

    private static void lightest() {
        OnlyDifferences x = with(DOWN);
        OnlyDifferences y = with(UP);
        for (int thing = 0; thing < 12; thing++) {
            Due.is("LIGHTEST of " + thing, x.lightest(thing), 9999 * (11 - thing));
            Due.is("LIGHTEST of " + thing, y.lightest(thing), 9999 * thing);
        }
        x = with("a-b<9999;c-d>-9999;e-f>0;g-h>1;i-j<-1");
        int[] want = {0, 0, 0, 0, 0, 0, 1, 0, 0, 1, 0, 0};
        for (int thing = 0; thing < 12; thing++) {
            Due.is("LIGHTEST of " + thing, x.lightest(thing), want[thing]);
        }
        x = with("a-b>3;a-c>5;a-d>4");
        Due.is("the most of several", x.lightest(0), 5);
        x = with("a-b>3;b-c>-2");
        Due.is("not less than by one alone", x.lightest(0), 3);
    }

    private static void slack() {
        OnlyDifferences x = with("a-b<9999;a-b<-9999;c-d>-9999;c-d>9999;e-f=-9999;e-f<-9999;e-f>-9999");
        int[] want = {19998, 0, 19998, 0, 0, 0, 0};
        for (int i = 0; i < want.length; i++) {
            Due.is("SLACK of " + i, x.slack(i), want[i]);
        }
        Due.is("none behind the last", x.slack(want.length), UNKNOWN);
        Due.is("none ahead of the first", x.slack(-1), UNKNOWN);
        x = with(UP + ";a-l<9999;l-a>-9999;a-l<-9999");
        Due.is("the most", x.slack(11), FAR + 9999);
        Due.is("the most, at least", x.slack(12), FAR + 9999);
        Due.is("of one below 0", x.slack(13), FAR - 9999);
        Due.is("of one with =", x.slack(10), 0);
        x = with("a-b<3;b-c<4;a-c<7;a-c<8;a-c>-9");
        Due.is("just what follows", x.slack(2), 0);
        Due.is("one less than what follows", x.slack(3), 1);
        Due.is("the other way", x.slack(4), 0);
    }

    private static void chain(String text, int many, int first) {
        OnlyDifferences x = with(text);
        Due.is("A CHAIN of " + text, x.chain(0), many);
        Due.is("its first of " + text, x.chain(1), first);
    }

    private static void chain() {
        chain("a-b<0", 1, 0);
        chain("a-b<1", 1, 0);
        chain("k-l=0", 1, 0);
        chain("k-l<-1", 2, 10);
        chain("k-l>1", 2, 11);
        chain("k-l<-1;a-b<-1", 2, 0);
        chain("a-b<-1;c-d<-1;d-e<-1", 3, 2);
        chain("l-a<-1;a-k<-1", 3, 11);
        chain("a-b<-1;b-c<0;c-d<-1", 3, 0);
        chain("a-b<0;b-c<-1;c-d<-1", 3, 0);
        chain("b-a<0;b-c<-1;c-d<-1", 3, 1);
        chain("a-b<-1;c-b<-1;d-b<-1", 2, 0);
        chain(DOWN, 12, 11);
        chain(UP, 12, 0);
        chain(DOWN.substring(9), 11, 11);
    }

    private static void orders() {
        OnlyDifferences x = with(DOWN);
        for (int some : new int[] {0, 1, 2048, 2049, 1365, 4094, 4095}) {
            Due.is("ORDERS of " + some + ", all told", x.orders(some), 1);
        }
        x = with("a-b<0;b-a<0");
        Due.is("like ones, in any order", x.orders(3), 2);
        x = with("a-b<-1");
        Due.is("half of all", x.orders(4095), 479001600 / 2);
        Due.is("ORDERS of two that are told", x.orders(3), 1);
        Due.is("ORDERS of two, one told", x.orders(5), 2);
        Due.is("ORDERS of none", x.orders(0), 1);
        x = with("a-b<-1;b-c<-1");
        Due.is("by one that is not there", x.orders(5), 1);
        x = with("a-l<-1;b-l<-1;c-l<-1;d-l<-1;e-l<-1;f-l<-1;g-l<-1;h-l<-1;i-l<-1;j-l<-1;k-l<-1");
        Due.is("one last", x.orders(4095), 39916800);
    }

    private static void weighings() {
        OnlyDifferences x = with("a-b=1;b-c<0;d-c>9;e-f=-9;g-h<9999;i-j>-9999;k-l>9999");
        Due.is("of one, up to 0", x.weighings(1, 0), 1);
        Due.is("of one, up to 9", x.weighings(2048, 9), 10);
        Due.is("just 1, up to 0", x.weighings(3, 0), 0);
        Due.is("just 1, up to 1", x.weighings(3, 1), 1);
        Due.is("just 1, up to 9", x.weighings(3, 9), 9);
        Due.is("at most 0, up to 0", x.weighings(6, 0), 1);
        Due.is("at most 0, up to 9", x.weighings(6, 9), 55);
        Due.is("at least 9, up to 8", x.weighings(12, 8), 0);
        Due.is("at least 9, up to 9", x.weighings(12, 9), 1);
        Due.is("just -9, up to 9", x.weighings(48, 9), 1);
        Due.is("just -9, up to 8", x.weighings(48, 8), 0);
        Due.is("at most 9999", x.weighings(192, 9), 100);
        Due.is("at least -9999", x.weighings(768, 9), 100);
        Due.is("at least 9999", x.weighings(3072, 9), 0);
        Due.is("what follows by another one is not asked", x.weighings(5, 9), 100);
        Due.is("four of which none are told", x.weighings(1 | 8 | 16 | 64, 9), 10000);
        Due.is("four of which all are told", x.weighings(15, 9), 1);
        x = with("a-b<0;b-c<0;c-d<0;d-l<0");
        Due.is("four, none more than the next one", x.weighings(15, 9), 715);
        Due.is("up to 0", x.weighings(15, 0), 1);
        Due.is("up to 1", x.weighings(15, 1), 5);
    }

    private static void claimIs() {
        OnlyDifferences x = with("l-a=-9999;a-l<9999;k-b>-0");
        int[][] want = {{11, 0, 0, -9999}, {0, 11, 1, 9999}, {10, 1, 2, 0}};
        for (int i = 0; i < 3; i++) {
            for (int what = 0; what < 4; what++) {
                Due.is("claimIs(" + i + ", " + what + ")", x.claimIs(i, what), want[i][what]);
            }
        }
        x = with("a-b<0" + ";a-b<1".repeat(38) + ";l-k>9");
        Due.is("the last of 40", x.claimIs(39, 0), 11);
        Due.is("by how much", x.claimIs(39, 3), 9);
        Due.is("none behind it", x.claimIs(40, 0), -100000);
    }

    /** They can't be: said of all THINGS, of those too that hang together with none of A RING. */
    private static void cannotBe() {
        OnlyDifferences x = with(CANNOT_BE);
        for (int a = 0; a < 12; a++) {
            Due.is("surely(" + a + ", 0)", x.surely(a, 0), -3);
            Due.is("surely(" + a + ", 1)", x.surely(a, 1), -3);
            Due.is("lightest(" + a + ")", x.lightest(a), -3);
            Due.is("orders of " + a, x.orders(1 << a), -3);
            for (int b = 0; b < 12; b++) {
                Due.is("bound(" + a + ", " + b + ")", x.bound(a, b), UNKNOWN);
            }
        }
        for (int i = -1; i < 4; i++) {
            Due.is("slack(" + i + ")", x.slack(i), UNKNOWN);
        }
        Due.is("orders of none", x.orders(0), -3);
        Due.is("orders of all", x.orders(4095), -3);
        Due.is("idle", x.idle(0), -3);
        Due.is("the first idle", x.idle(1), -3);
        Due.is("chain", x.chain(0), -3);
        Due.is("the first of a chain", x.chain(1), -3);
        Due.is("KNOWN all the same", x.known(3, 2), -7);
        Due.is("GROUPS all the same", x.groups(100), 11);
        Due.is("GROUP of c", x.groups(2), 12);
        Due.is("WEIGHINGS all the same", x.weighings(12, 9), 3);
        Due.is("WEIGHINGS of one", x.weighings(1, 9), 10);
        Due.is("WEIGHINGS of those that can't be", x.weighings(3, 9), 0);
        Due.is("claimIs all the same", x.claimIs(1, 3), -1);
        Due.is("CLAIMS are there", x.count(2), 3);
    }

    /** In place of all ahead: nothing of those before is left, whichever of both can be. */
    private static void replaced() {
        OnlyDifferences x = with(DOWN);
        Due.is("others", Feed.claims(x, CANNOT_BE), 3);
        Due.is("they can't be", x.canBe(0), 0);
        Due.is("KNOWN", x.known(0, 1), UNKNOWN);
        Due.is("others again", Feed.claims(x, "k-l<1"), 1);
        Due.is("they can be", x.canBe(0), 1);
        Due.is("BOUND", x.bound(0, 1), UNBOUNDED);
        Due.is("BOUND of those told", x.bound(10, 11), 1);
        Due.is("GROUPS", x.groups(100), 12);
        Due.is("LIGHTEST", x.lightest(0), 0);
        Due.is("A CHAIN", x.chain(0), 1);
        Due.is("THINGS in CLAIMS", x.count(3), 3072);
        Due.is("a FAULT", Feed.claims(x, "a-b=1;a-b=2"), -8006);
        Due.is("KNOWN behind a FAULT", x.known(0, 1), UNKNOWN);
        Due.is("BOUND behind a FAULT", x.bound(0, 1), UNBOUNDED);
        Due.is("BOUND of those told", x.bound(10, 11), 1);
        Due.is("refused", x.claims(1), -1);
        Due.is("BOUND behind it", x.bound(10, 11), 1);
    }

    /** Time and again: each THING hangs together by the last CLAIMS alone, told or at FAULT ahead. */
    private static void replacedAgain() {
        OnlyDifferences x = new OnlyDifferences();
        for (int thing = 0; thing < 12; thing++) {
            char one = (char) ('a' + thing);
            char other = (char) ('a' + (thing + 1) % 12);
            char third = (char) ('a' + (thing + 2) % 12);
            String there = one + "-" + other + "=5;" + third + "-" + one + "=4";
            String[] ahead = {there, "k-l=1;" + there, there + ";" + there.replace('5', '6'), there + ";"};
            for (String text : ahead) {
                Feed.claims(x, text);
                Feed.claims(x, text);
                Due.is("none with =", Feed.claims(x, one + "-" + other + "<1"), 1);
                Due.is("GROUPS behind " + text, x.groups(100), 12);
                Due.is("GROUP behind " + text, x.groups(thing), 1 << thing);
                Due.is("KNOWN behind " + text, x.known(thing, (thing + 1) % 12), UNKNOWN);
                Due.is("KNOWN the other way behind " + text, x.known((thing + 1) % 12, thing), UNKNOWN);
                Due.is("BOUND behind " + text, x.bound(thing, (thing + 1) % 12), 1);
                Due.is("no BOUND behind " + text, x.bound((thing + 1) % 12, thing), UNBOUNDED);
            }
            x = thing % 4 == 3 ? new OnlyDifferences() : x;
        }
    }
}
