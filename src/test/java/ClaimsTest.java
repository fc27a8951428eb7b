/** Promises 4 and 6 to 17: CLAIMS and what follows from them. */
public final class ClaimsTest {
    private static final int UNKNOWN = -1000000;
    private static final int UNBOUNDED = 1000000;

    public static void main(String[] args) {
        claimsTaken();
        claimsFaults();
        claimsLines();
        claimsRefused();
        known();
        groups();
        bound();
        canBe();
        rings();
        idle();
        surely();
        lightest();
        slack();
        chain();
        orders();
        weighings();
        claimIs();
        cannotBe();
        Due.end();
    }

    private static OnlyDifferences with(String text) {
        OnlyDifferences x = new OnlyDifferences();
        int many = Feed.claims(x, text);
        int lines = 1;
        for (int i = 0; i < text.length(); i++) {
            lines += text.charAt(i) == ';' ? 1 : 0;
        }
        Due.is("claims " + text, many, lines);
        return x;
    }

    private static void fault(String text, int want) {
        OnlyDifferences x = with("a-b=1;c-d<2");
        Due.is("claims " + text, Feed.claims(x, text), want);
        Due.is("bytes behind " + text, x.count(5), 0);
        Due.is("CLAIMS behind " + text, x.count(2), 2);
        Due.is("known behind " + text, x.known(0, 1), 1);
        Due.is("bound behind " + text, x.bound(2, 3), 2);
    }

    private static void claimsTaken() {
        OnlyDifferences x = with("a-b=5;l-a<-9999;k-l>0");
        Due.is("how many", x.count(2), 3);
        Due.is("THINGS", x.count(3), 1 | 2 | 1 << 10 | 1 << 11);
        Due.is("in place of all ahead", Feed.claims(x, "c-d<0007"), 1);
        Due.is("how many then", x.count(2), 1);
        Due.is("THINGS then", x.count(3), 12);
        Due.is("known then", x.known(0, 1), UNKNOWN);
        Due.is("bound then", x.bound(2, 3), 7);
        Due.is("below 0 of 0", Feed.claims(x, "c-d=-0"), 1);
        Due.is("number", x.claimIs(0, 3), 0);
    }

    private static void claimsFaults() {
        fault("m-b=5", -1000);
        fault("A-b=5", -1000);
        fault(";", -1000);
        fault("a", -1001);
        fault("a=b", -1001);
        fault("a-", -1002);
        fault("a-m=1", -1002);
        fault("a-b", -1003);
        fault("a-b5", -1003);
        fault("a-b=", -1004);
        fault("a-b=+1", -1004);
        fault("a-b=-", -1005);
        fault("a-b=--1", -1005);
        fault("a-b= 1", -1004);
        fault("a-b=1 ", -1005);
        fault("a-b=1;", -1006);
        fault("a-b=1,c-d=1", -1005);
        fault("a-b=12345", -2008);
        fault("a-b=-12345", -2009);
        fault("a-b=0;c-d<00000", -2014);
        fault("a-a=1", -6002);
        fault("a-b=1;l-l<1", -6008);
        fault("a-a", -6002);
        fault("a-b=1;a-b=2", -8006);
        fault("a-b=1;b-a=1", -8006);
        fault("a-b=1;b-c=1;c-d=1;a-d=4", -8018);
        fault("a-b=1;c-d=1;b-c=1;d-a=3", -8018);
        fault("a-b=1;a-b=2;a-a=1", -8006);
        fault("a-b=1;a-b=20000", -2014);
        fault("a-b=1;a-b=2x", -8006);
        Due.is("a-b=1;b-a=-1", Feed.claims(new OnlyDifferences(), "a-b=1;b-a=-1"), 2);
        Due.is("= that can't be with <", Feed.claims(new OnlyDifferences(), "a-b<1;a-b=2"), 2);
        Due.is("< that can't be with =", Feed.claims(new OnlyDifferences(), "a-b=2;a-b<1;a-b>3"), 3);
    }

    private static String lines(int many) {
        StringBuilder text = new StringBuilder();
        for (int i = 0; i < many; i++) {
            text.append(i == 0 ? "" : ";").append("a-b<").append(i % 10);
        }
        return text.toString();
    }

    private static void claimsLines() {
        OnlyDifferences x = new OnlyDifferences();
        Due.is("40 LINES", Feed.claims(x, lines(40)), 40);
        Due.is("the last", x.claimIs(39, 3), 9);
        Due.is("none behind it", x.claimIs(40, 3), -100000);
        fault(lines(40) + ";a", -4240);
        fault(lines(40) + ";l", -4240);
        fault(lines(40) + ";m", -1240);
        fault(lines(40) + ";", -1240);
    }

    private static void claimsRefused() {
        OnlyDifferences x = new OnlyDifferences();
        Feed.text(x, "a-b=5");
        Due.is("claims(0)", x.claims(0), -1);
        Due.is("claims(-1)", x.claims(-1), -1);
        Due.is("claims(21)", x.claims(21), -1);
        Due.is("claims(MIN)", x.claims(Integer.MIN_VALUE), -1);
        Due.is("claims(MAX)", x.claims(Integer.MAX_VALUE), -1);
        Due.is("the tape stays", x.count(5), 20);
        Due.is("claims(5)", x.claims(5), 1);
        Due.is("it is empty then", x.count(5), 0);
        Due.is("claims(1) of none", x.claims(1), -1);
        for (int i = 0; i < 13; i++) {
            x.feed(0x612d623d, 0x613b2020, 0, 0, 0);
        }
        Due.is("claims(251)", x.claims(251), -1);
        Due.is("the tape stays", x.count(5), 260);
        Due.is("claims(250)", x.claims(250), -1004);
    }

    private static void known() {
        OnlyDifferences x = with("a-b=5;c-b=-3;d-e<0;d-e>0;f-c=9999;g-f=9999");
        Due.is("known(0, 1)", x.known(0, 1), 5);
        Due.is("known(1, 0)", x.known(1, 0), -5);
        Due.is("known(0, 2)", x.known(0, 2), 8);
        Due.is("known(6, 0)", x.known(6, 0), 19990);
        Due.is("known by = alone", x.known(3, 4), UNKNOWN);
        Due.is("known(0, 3)", x.known(0, 3), UNKNOWN);
        Due.is("known(11, 11)", x.known(11, 11), 0);
        Due.is("known(-1, 0)", x.known(-1, 0), UNKNOWN);
        Due.is("known(0, -1)", x.known(0, -1), UNKNOWN);
        Due.is("known(12, 0)", x.known(12, 0), UNKNOWN);
        Due.is("known(0, 12)", x.known(0, 12), UNKNOWN);
        Due.is("known(12, 12)", x.known(12, 12), UNKNOWN);
        Due.is("known(-1, -1)", x.known(-1, -1), UNKNOWN);
        Due.is("known of those that can't be", with("a-b=5;a-b<4").known(0, 1), 5);
    }

    private static void groups() {
        OnlyDifferences x = with("a-b=5;c-d=1;d-a=0;e-f<0;k-l=2");
        Due.is("groups(100)", x.groups(100), 8);
        Due.is("groups(3)", x.groups(3), 15);
        Due.is("groups(0)", x.groups(0), 15);
        Due.is("groups(4)", x.groups(4), 16);
        Due.is("groups(11)", x.groups(11), 3072);
        Due.is("groups(12)", x.groups(12), -1);
        Due.is("groups(-1)", x.groups(-1), -1);
        Due.is("groups(99)", x.groups(99), -1);
        Due.is("groups(101)", x.groups(101), -1);
    }

    private static void bound() {
        OnlyDifferences x = with("a-b<5;b-c<-7;d-a>2;e-d=1;a-c<0");
        Due.is("bound(0, 1)", x.bound(0, 1), 5);
        Due.is("bound(0, 2)", x.bound(0, 2), -2);
        Due.is("bound(0, 3)", x.bound(0, 3), -2);
        Due.is("bound(0, 4)", x.bound(0, 4), -3);
        Due.is("bound(4, 3)", x.bound(4, 3), 1);
        Due.is("bound(1, 0)", x.bound(1, 0), UNBOUNDED);
        Due.is("bound(11, 11)", x.bound(11, 11), 0);
        Due.is("bound(-1, 0)", x.bound(-1, 0), UNKNOWN);
        Due.is("bound(0, 12)", x.bound(0, 12), UNKNOWN);
        Due.is("bound(12, 12)", x.bound(12, 12), UNKNOWN);
        x = with("a-b<9999;b-c<9999;c-d<9999;d-e<9999;e-f<9999;f-g<9999;g-h<9999;h-i<9999;i-j<9999;j-k<9999;k-l<9999");
        Due.is("the widest", x.bound(0, 11), 109989);
        x = with("a-b>9999;b-c>9999;c-d>9999;d-e>9999;e-f>9999;f-g>9999;g-h>9999;h-i>9999;i-j>9999;j-k>9999;k-l>9999");
        Due.is("the least", x.bound(11, 0), -109989);
    }

    private static void canBe() {
        OnlyDifferences x = with("a-b<5;b-a<-5");
        Due.is("round by just 0", x.canBe(0), 1);
        Due.is("canBe(1)", x.canBe(1), -2);
        Due.is("canBe(2)", x.canBe(2), -2);
        Due.is("canBe(-1)", x.canBe(-1), -1);
        Due.is("canBe(3)", x.canBe(3), -1);
        x = with("a-b<5;b-a<-6");
        Due.is("below 0", x.canBe(0), 0);
        Due.is("canBe(3) then", x.canBe(3), -1);
    }

    private static void ring(String text, int fewest, int things) {
        OnlyDifferences x = with(text);
        Due.is("canBe(0) of " + text, x.canBe(0), 0);
        Due.is("canBe(1) of " + text, x.canBe(1), fewest);
        Due.is("canBe(2) of " + text, x.canBe(2), things);
    }

    private static void rings() {
        ring("a-b<5;b-a<-6", 2, 3);
        ring("a-b=5;a-b<4", 2, 3);
        ring("a-b=5;a-b>6", 2, 3);
        ring("a-b<5;a-b<3;a-b>4", 2, 3);
        ring("a-b<0;b-c<0;c-a<-1", 3, 7);
        ring("a-b<0;b-c<0;c-a<-1;k-l<0;l-k<-1", 2, 3072);
        ring("c-d<-1;d-c<0;b-e<0;e-b<-1;a-f<0;f-a<-1", 2, 12);
        ring("l-k<0;k-j<0;j-l<-1;a-l<0;l-b<0;b-a<-1", 3, 1 | 2 | 2048);
        ring("a-b=1;b-c=1;c-d=1;d-a>-2", 4, 15);
        ring("a-b<0;b-e<0;e-d<0;d-a<-9;b-c<8;c-d<0", 4, 15);
        ring("a-b<-1;b-c<0;c-d<0;d-e<0;e-f<0;f-g<0;g-h<0;h-i<0;i-j<0;j-k<0;k-l<0;l-a<0", 12, 4095);
        ring("a-b>9999;b-c>9999;c-a>9999;a-d>9999;d-b>9999;b-e>9999;e-f>9999;f-a>9999", 3, 7);
    }

    private static void idle() {
        OnlyDifferences x = with("a-b<3;b-c<4;a-c<7;a-c<8;d-e=1;d-e<1");
        Due.is("idle(0)", x.idle(0), 3);
        Due.is("idle(1)", x.idle(1), 2);
        Due.is("idle(2)", x.idle(2), -1);
        Due.is("idle(-1)", x.idle(-1), -1);
        x = with("a-b=1;b-a=-1");
        Due.is("each of two alike", x.idle(0), 2);
        Due.is("the first of them", x.idle(1), 0);
        x = with("a-b<3;b-c<4;a-c<6");
        Due.is("none", x.idle(0), 0);
        Due.is("no first", x.idle(1), -2);
        x = with("a-b=1;a-b<1;a-b>1");
        Due.is("one with = is left out with both its sides", x.idle(0), 3);
        x = with("a-b=1;a-b<1;a-b>0");
        Due.is("one side of = is still asked", x.idle(0), 2);
        Due.is("the first then", x.idle(1), 1);
    }

    private static void surely() {
        OnlyDifferences x = with("a-b<-1;b-c<0;c-d<-2;e-f<1;g-a=3");
        Due.is("surely(0, 0)", x.surely(0, 0), 2 | 4 | 8 | 64);
        Due.is("surely(1, 0)", x.surely(1, 0), 8);
        Due.is("surely(3, 1)", x.surely(3, 1), 1 | 2 | 4);
        Due.is("surely(6, 1)", x.surely(6, 1), 1);
        Due.is("surely(4, 0)", x.surely(4, 0), 0);
        Due.is("surely(11, 1)", x.surely(11, 1), 0);
        Due.is("surely(12, 0)", x.surely(12, 0), -1);
        Due.is("surely(-1, 0)", x.surely(-1, 0), -1);
        Due.is("surely(0, 2)", x.surely(0, 2), -1);
        Due.is("surely(0, -1)", x.surely(0, -1), -1);
    }

    private static void lightest() {
        OnlyDifferences x = with("a-b>4;b-c>-2;d-c=3;e-d<0;d-l>1");
        Due.is("lightest(0)", x.lightest(0), 4);
        Due.is("lightest(1)", x.lightest(1), 0);
        Due.is("lightest(2)", x.lightest(2), 0);
        Due.is("lightest(3)", x.lightest(3), 3);
        Due.is("lightest(4)", x.lightest(4), 0);
        Due.is("lightest(11)", x.lightest(11), 0);
        Due.is("lightest(12)", x.lightest(12), -1);
        Due.is("lightest(-1)", x.lightest(-1), -1);
    }

    private static void slack() {
        OnlyDifferences x = with("a-b<9;a-b<3;b-c>-4;c-b<1;d-e=5;b-c>-9");
        Due.is("slack(0)", x.slack(0), 6);
        Due.is("slack(1)", x.slack(1), 0);
        Due.is("slack(2)", x.slack(2), 3);
        Due.is("slack(3)", x.slack(3), 0);
        Due.is("slack(4)", x.slack(4), 0);
        Due.is("slack(5)", x.slack(5), 8);
        Due.is("slack(6)", x.slack(6), UNKNOWN);
        Due.is("slack(-1)", x.slack(-1), UNKNOWN);
        Due.is("slack(40)", x.slack(40), UNKNOWN);
    }

    private static void chain() {
        OnlyDifferences x = with("d-c<-1;c-b<-1;b-a<0;f-e<-1;e-a<-1");
        Due.is("chain(0)", x.chain(0), 3);
        Due.is("chain(1)", x.chain(1), 3);
        x = with("l-k<-1;k-j<-1;b-a<-1;c-b<-1");
        Due.is("of like ones the lowest", x.chain(1), 2);
        Due.is("chain(2)", x.chain(2), -1);
        Due.is("chain(-1)", x.chain(-1), -1);
        x = with("a-b<0;b-a<0");
        Due.is("none is more", x.chain(0), 1);
        Due.is("none is more: 0", x.chain(1), 0);
        x = with("b-a=1;c-b=1;d-c=1;e-d=1;f-e=1;g-f=1;h-g=1;i-h=1;j-i=1;k-j=1;l-k=1");
        Due.is("all", x.chain(0), 12);
        Due.is("from the least", x.chain(1), 0);
        x = with("a-b=1;b-c=1;c-d=1;d-e=1;e-f=1;f-g=1;g-h=1;h-i=1;i-j=1;j-k=1;k-l=1");
        Due.is("all the other way", x.chain(0), 12);
        Due.is("from the least then", x.chain(1), 11);
    }

    private static void orders() {
        OnlyDifferences x = with("a-b<-1;b-c<-1;d-c<0;e-f<-1");
        Due.is("orders(0)", x.orders(0), 1);
        Due.is("orders(7)", x.orders(7), 1);
        Due.is("orders(5)", x.orders(5), 1);
        Due.is("orders(12)", x.orders(12), 2);
        Due.is("orders(15)", x.orders(15), 4);
        Due.is("orders(48)", x.orders(48), 1);
        Due.is("orders(4095)", x.orders(4095), 479001600 / 12);
        Due.is("orders(2048)", x.orders(2048), 1);
        Due.is("orders(4096)", x.orders(4096), -1);
        Due.is("orders(-1)", x.orders(-1), -1);
        Due.is("chain(1) behind orders", x.chain(1), 0);
        Due.is("chain(0) behind orders", x.chain(0), 3);
    }

    private static void weighings() {
        OnlyDifferences x = with("a-b=2;b-c<0;d-c>3;a-e<-9");
        Due.is("weighings(1, 9)", x.weighings(1, 9), 10);
        Due.is("weighings(3, 9)", x.weighings(3, 9), 8);
        Due.is("weighings(3, 1)", x.weighings(3, 1), 0);
        Due.is("others are not asked", x.weighings(5, 9), 100);
        Due.is("weighings(7, 4)", x.weighings(7, 4), 12);
        Due.is("weighings(15, 4)", x.weighings(15, 4), 4);
        Due.is("weighings(17, 9)", x.weighings(17, 9), 1);
        Due.is("weighings(2048, 0)", x.weighings(2048, 0), 1);
        Due.is("weighings(0, 9)", x.weighings(0, 9), -1);
        Due.is("weighings(31, 9)", x.weighings(31, 9), -1);
        Due.is("weighings(4096, 9)", x.weighings(4096, 9), -1);
        Due.is("weighings(4097, 9)", x.weighings(4097, 9), -1);
        Due.is("weighings(-1, 9)", x.weighings(-1, 9), -1);
        Due.is("weighings(1, 10)", x.weighings(1, 10), -1);
        Due.is("weighings(1, -1)", x.weighings(1, -1), -1);
    }

    private static void claimIs() {
        OnlyDifferences x = with("a-b=5;l-k<-12;c-d>9999");
        int[][] want = {{0, 1, 0, 5}, {11, 10, 1, -12}, {2, 3, 2, 9999}};
        for (int i = 0; i < want.length; i++) {
            for (int what = 0; what < 4; what++) {
                Due.is("claimIs(" + i + ", " + what + ")", x.claimIs(i, what), want[i][what]);
            }
        }
        Due.is("claimIs(0, 4)", x.claimIs(0, 4), -100000);
        Due.is("claimIs(0, -1)", x.claimIs(0, -1), -100000);
        Due.is("claimIs(3, 0)", x.claimIs(3, 0), -100000);
        Due.is("claimIs(-1, 0)", x.claimIs(-1, 0), -100000);
    }

    private static void cannotBe() {
        OnlyDifferences x = with("a-b<5;b-a<-6;c-d=1");
        Due.is("bound", x.bound(2, 3), UNKNOWN);
        Due.is("idle(0)", x.idle(0), -3);
        Due.is("idle(1)", x.idle(1), -3);
        Due.is("idle(2)", x.idle(2), -1);
        Due.is("surely(2, 0)", x.surely(2, 0), -3);
        Due.is("surely(12, 0)", x.surely(12, 0), -1);
        Due.is("lightest(2)", x.lightest(2), -3);
        Due.is("lightest(12)", x.lightest(12), -1);
        Due.is("slack(2)", x.slack(2), UNKNOWN);
        Due.is("chain(0)", x.chain(0), -3);
        Due.is("chain(2)", x.chain(2), -1);
        Due.is("orders(0)", x.orders(0), -3);
        Due.is("orders(4096)", x.orders(4096), -1);
        Due.is("known", x.known(2, 3), 1);
        Due.is("groups", x.groups(2), 12);
        Due.is("weighings of others", x.weighings(12, 9), 9);
        Due.is("weighings of these", x.weighings(3, 9), 0);
        Due.is("claims that can be again", Feed.claims(x, "a-b<5"), 1);
        Due.is("canBe", x.canBe(0), 1);
        Due.is("bound", x.bound(0, 1), 5);
    }
}
