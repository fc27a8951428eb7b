/** Promises 1, 2, 5 and 30 to 39: a new object, the tape, STALLS, DAYS, what is kept and counted. */
public final class StallsTest {
    public static void main(String[] args) {
        newObject();
        feed();
        stock();
        stockFaults();
        stockRefused();
        days();
        daysWithLaw();
        mostThatCanBe();
        lastDay();
        tried();
        stallIs();
        soonest();
        richest();
        seed();
        keepAndUndo();
        check();
        count();
        Due.end();
    }

    private static OnlyDifferences with(String stock, String law) {
        OnlyDifferences x = new OnlyDifferences();
        Due.is("stock " + stock, Feed.stock(x, stock) > 0, true);
        if (!law.isEmpty()) {
            Due.is("law " + law, Feed.law(x, law) > 0, true);
        }
        return x;
    }

    private static void stallIs(OnlyDifferences x, int k, int upper, int lower, int money, int soldOut) {
        Due.is("UPPER of " + k, x.stallIs(k, 0), upper);
        Due.is("LOWER of " + k, x.stallIs(k, 1), lower);
        Due.is("MONEY of " + k, x.stallIs(k, 2), money);
        Due.is("SOLD OUT of " + k, x.stallIs(k, 3), soldOut);
    }

    private static void newObject() {
        OnlyDifferences x = new OnlyDifferences();
        int[] want = {0, 0, 0, 0, 0, 0, 1, 0, 0};
        for (int what = 0; what < want.length; what++) {
            Due.is("count(" + what + ") of a new object", x.count(what), want[what]);
        }
        Due.is("richest", x.richest(), -2);
        Due.is("undo", x.undo(), false);
        Due.is("stallIs(0, 0)", x.stallIs(0, 0), -1);
        Due.is("claimIs(0, 0)", x.claimIs(0, 0), -100000);
        Due.is("groups", x.groups(100), 12);
        Due.is("NONE", OnlyDifferences.NONE, -1);
    }

    private static void feed() {
        OnlyDifferences x = new OnlyDifferences();
        for (int i = 1; i <= 13; i++) {
            Due.is("feed " + i, x.feed(0, 0, 0, 0, 0), 20 * i);
        }
        Due.is("a 14th", x.feed(1, 1, 1, 1, 1), -1);
        Due.is("bytes", x.count(5), 260);
        x = new OnlyDifferences();
        Due.is("the highest first", x.feed(0x01020304, 0x05060708, 0x090a0b0c, 0x0d0e0f10, 0xffa1a2a3), 20);
        Due.is("the sum of all", x.walk(20, 0), 136 - 1 - 95 - 94 - 93);
        x.feed(0x80000000, 0, 0, 0, 0);
        Due.is("the highest of the first", x.walk(1, 0), -128);
        Due.is("all is taken", x.count(5), 0);
        x.feed(0x61000000, 0, 0, 0, 0x2d);
        x.feed(0x623d3700, 0, 0, 0, 0);
        Due.is("behind what is there", x.claims(24), -1001);
        x.feed(0x612d623d, 0x312b3b61, 0, 0, 0);
        Due.is("from the front", x.claims(5), 1);
    }

    private static void stock() {
        OnlyDifferences x = with("0:50-20;7:9999-0;3:0012-12", "");
        Due.is("how many", Integer.bitCount(x.count(1)), 3);
        Due.is("which", x.count(1), 1 | 8 | 128);
        stallIs(x, 0, 50, 20, 0, 0);
        stallIs(x, 3, 12, 12, 0, 0);
        stallIs(x, 7, 9999, 0, 0, 0);
        x.days(7);
        stallIs(x, 0, 20, 20, 30, 1);
        Due.is("again", Feed.stock(x, "0:50-20;1:5-4"), 2);
        stallIs(x, 0, 50, 20, 0, 0);
        stallIs(x, 1, 5, 4, 0, 0);
        Due.is("those ahead are not told", x.stallIs(7, 0), -1);
        Due.is("which then", x.count(1), 3);
        Due.is("MONEY of all then", x.count(7), 0);
        Due.is("THE DAY stays", x.count(0), 7);
        Due.is("eight", Feed.stock(x, "7:1-0;6:1-0;5:1-0;4:1-0;3:1-0;2:1-0;1:1-0;0:1-0"), 8);
    }

    private static void fault(String text, int want) {
        OnlyDifferences x = with("2:9-1", "");
        x.days(1);
        Due.is("stock " + text, Feed.stock(x, text), want);
        Due.is("bytes behind " + text, x.count(5), 0);
        Due.is("told behind " + text, x.count(1), 4);
        stallIs(x, 2, 4, 1, 5, 0);
    }

    private static void stockFaults() {
        fault("8:5-1", -1000);
        fault("a:5-1", -1000);
        fault("/:5-1", -1000);
        fault("0", -1001);
        fault("0;", -1001);
        fault("0:", -1002);
        fault("0:-1", -1002);
        fault("0:5", -1003);
        fault("0:5:1", -1003);
        fault("0:5-", -1004);
        fault("0:5--1", -1004);
        fault("0:5-1;", -1006);
        fault("0:5-1 ", -1005);
        fault("0:5-1;8:1-1", -1006);
        fault("0:12345-1", -2006);
        fault("0:12345", -2006);
        fault("0:1-00000", -2008);
        fault("0:1-20000", -2008);
        fault("0:5-6", -3004);
        fault("0:5-6;0:1-1", -3004);
        fault("0:5-6;9", -3004);
        fault("0:5-6x", -3004);
        fault("0:5-10", -3004);
        fault("0:5-1;0:5-1", -6006);
        fault("0:5-1;1:5-1;0", -6012);
        fault("7:1-0;6:1-0;5:1-0;4:1-0;3:1-0;2:1-0;1:1-0;0:1-0;0", -6048);
        fault("7:1-0;6:1-0;5:1-0;4:1-0;3:1-0;2:1-0;1:1-0;0:1-0;8", -1048);
    }

    private static void stockRefused() {
        OnlyDifferences x = new OnlyDifferences();
        Feed.text(x, "0:5-1");
        Due.is("stock(0)", x.stock(0), -1);
        Due.is("stock(-1)", x.stock(-1), -1);
        Due.is("stock(21)", x.stock(21), -1);
        for (int i = 0; i < 8; i++) {
            x.feed(0, 0, 0, 0, 0);
        }
        Due.is("stock(161)", x.stock(161), -1);
        Due.is("the tape stays", x.count(5), 180);
        Due.is("stock(160)", x.stock(160), -1005);
        Due.is("it is empty then", x.count(5), 0);
        Due.is("stock(1) of none", x.stock(1), -1);
    }

    private static void days() {
        OnlyDifferences x = with("1:20-8;0:7-0;5:3-3", "");
        Due.is("days(1)", x.days(1), 10);
        stallIs(x, 0, 2, 0, 5, 0);
        stallIs(x, 1, 15, 8, 5, 0);
        stallIs(x, 5, 3, 3, 0, 0);
        Due.is("three DRAWS", x.count(6), draws(1, 3));
        Due.is("days(1)", x.days(1), 7);
        stallIs(x, 0, 0, 0, 7, 1);
        Due.is("days(1)", x.days(1), 2);
        stallIs(x, 0, 0, 0, 7, 1);
        stallIs(x, 1, 8, 8, 12, 1);
        Due.is("days(100)", x.days(100), 0);
        Due.is("THE DAY", x.count(0), 103);
        Due.is("309 DRAWS", x.count(6), draws(1, 309));
        Due.is("days(0)", x.days(0), -1);
        Due.is("days(101)", x.days(101), -1);
        Due.is("days(-1)", x.days(-1), -1);
        Due.is("THE DAY then", x.count(0), 103);
        OnlyDifferences none = new OnlyDifferences();
        Due.is("days of no STALLS", none.days(100), 0);
        Due.is("THE DAY of none", none.count(0), 100);
        Due.is("X of none", none.count(6), 1);
    }

    private static int draws(int seed, int many) {
        long x = seed;
        for (int i = 0; i < many; i++) {
            x = (25173 * x + 13849) % 65536;
        }
        return (int) x;
    }

    private static void daysWithLaw() {
        OnlyDifferences x = with("0:30-10;1:30-20", "v8(k=0);y3(k<2);r9(g=0);x(k=1)");
        Due.is("a day", x.days(1), 8);
        stallIs(x, 0, 22, 10, 24, 0);
        stallIs(x, 1, 30, 20, 0, 0);
        Due.is("both draw", x.count(6), draws(1, 2));
        Due.is("two more", x.days(2), 12);
        stallIs(x, 0, 19, 10, 60, 1);
        // r is asked behind it all: SOLD OUT is 1 by then, the MONEY is there.
        x = with("0:10-0", "v10(0=0);y40(0=0);rn*100+m(u=l)");
        Due.is("sold", x.days(1), 10);
        stallIs(x, 0, 104, 0, 400, 1);
        // v and y are asked as all is ahead of the sale.
        x = with("0:10-0", "vu(0=0);yg(0=0);r7(0=0)");
        Due.is("sold", x.days(1), 10);
        stallIs(x, 0, 7, 0, 100, 1);
        // The same DRAW for all of them, another one for the next STALL.
        int first = draws(1, 1) % 10;
        int second = draws(1, 2) % 10;
        x = with("0:900-0;1:900-0", "vw(0=0);yw(0=0);rw(0=0)");
        Due.is("sold by DRAWS", x.days(1), first + second);
        stallIs(x, 0, 900 - first, 0, first * first, 0);
        stallIs(x, 1, 900 - second, 0, second * second, 0);
        x = with("0:1-0", "r50+w(0=0)");
        x.days(1);
        stallIs(x, 0, 50 + first, 0, 1, 1);
        // A later STALL sees what the one ahead has done on the same DAY.
        x = with("0:10-0;1:8-0", "v2(k=0);vo(k=1)");
        Due.is("nine have more than eight no more", x.days(1), 2);
        x = with("0:10-0;1:7-0", "v2(k=0);vo(k=1)");
        Due.is("eight is more than seven", x.days(1), 3);
        // Nothing sold of something: not SOLD OUT; nothing of nothing neither.
        x = with("0:10-0;1:4-4", "v0(0=0);r5(0=0)");
        Due.is("none sold", x.days(3), 0);
        stallIs(x, 0, 10, 0, 0, 0);
        stallIs(x, 1, 4, 4, 0, 0);
        // t is THE DAY ahead of its end.
        x = with("0:900-0", "vt(0=0)");
        Due.is("on DAYS 0 to 3", x.days(4), 6);
        // It is asked anew behind a new STOCK; THE LAW stays.
        Feed.stock(x, "0:900-0");
        Due.is("on DAY 4", x.days(1), 4);
    }

    private static void mostThatCanBe() {
        OnlyDifferences x = with("0:9999-0", "v99999(0=0);y99999(0=0);r0-5(0=0)");
        Due.is("999 at most", x.days(1), 999);
        stallIs(x, 0, 9000, 0, 98901, 0);
        x.days(9);
        Due.is("all but nine", x.stallIs(0, 0), 9);
        Due.is("MONEY", x.stallIs(0, 2), 989010);
        x.days(1);
        stallIs(x, 0, 0, 0, 989901, 1);
        x = with("0:9999-9000;1:5-0", "v999(0=0);y99(0=0);r99999(0=0)");
        x.days(1);
        stallIs(x, 0, 9999, 9000, 98901, 1);
        stallIs(x, 1, 999, 0, 495, 1);
        x.days(10);
        Due.is("999999 at most", x.stallIs(0, 2), 999999);
        Due.is("eleven times", x.stallIs(0, 3), 11);
        x = with("0:50-0", "v0-1(0=0);y0-1(0=0)");
        Due.is("v is not below 0", x.days(1), 0);
        x = with("0:50-0", "y0-1(0=0)");
        Due.is("sold for nothing", x.days(1), 5);
        stallIs(x, 0, 45, 0, 0, 0);
        x = with("0:50-0", "v1/0(0=0);v7(0=0);y1%0(0=0)");
        Due.is("an E that is REFUSED is 0", x.days(1), 0);
        x = with("0:50-0", "v9(1/0=0|0=0);v7(!(1%[k-k]=0));v3(0=0|1/0=0)");
        Due.is("a C that is REFUSED does not hold", x.days(1), 3);
    }

    private static void lastDay() {
        OnlyDifferences x = with("0:1-0", "r1(0=0)");
        for (int i = 0; i < 99; i++) {
            x.days(100);
        }
        Due.is("98 more", x.days(98), 98);
        Due.is("THE DAY", x.count(0), 9998);
        Due.is("soonest at the end", x.soonest(0, 5), 1);
        Due.is("tried at the end", x.tried(5, 0), 1);
        Due.is("sold out at the end", x.tried(5, 2), 1);
        int before = x.count(6);
        Due.is("as many as can", x.days(2), 1);
        Due.is("THE DAY", x.count(0), 9999);
        Due.is("one DRAW", x.count(6), draws(before, 1));
        Due.is("none goes by", x.days(100), 0);
        Due.is("no DRAW", x.count(6), draws(before, 1));
        Due.is("soonest then", x.soonest(0, 5), -2);
        Due.is("tried then", x.tried(5, 0), 0);
        Due.is("SOLD OUT", x.stallIs(0, 3), 9999);
        Due.is("keep", x.keep(), 9999);
        Due.is("undo", x.undo(), true);
        x = with("0:1-0", "r1(0=0)");
        x.days(1);
        x.keep();
        Due.is("THE DAY stays by a new STOCK", Feed.stock(x, "1:1-0"), 1);
        for (int i = 0; i < 100; i++) {
            x.days(100);
        }
        x.undo();
        x.days(5);
        Due.is("9999 at most", x.stallIs(1, 3), 9999);
        Due.is("the others", x.stallIs(0, 3), 6);
    }

    private static void tried() {
        OnlyDifferences x = with("0:12-0;3:100-10", "v6(k=0);y2(k=3)");
        Due.is("SALES", x.tried(2, 0), 22);
        Due.is("MONEY", x.tried(2, 1), 32);
        Due.is("SOLD OUT", x.tried(2, 2), 1);
        Due.is("SOLD OUT in one", x.tried(1, 2), 0);
        Due.is("between 0", x.tried(1, 10), 6);
        Due.is("between 3", x.tried(100, 13), 0);
        Due.is("between 3 behind 17", x.tried(17, 13), 5);
        Due.is("MONEY of 0", x.tried(2, 20), 12);
        Due.is("MONEY of 3", x.tried(2, 23), 20);
        stallIs(x, 0, 12, 0, 0, 0);
        stallIs(x, 3, 100, 10, 0, 0);
        Due.is("THE DAY", x.count(0), 0);
        Due.is("X", x.count(6), 1);
        int[] none = {-1, 3, 9, 11, 12, 14, 17, 18, 19, 21, 22, 24, 27, 28, Integer.MAX_VALUE, Integer.MIN_VALUE};
        for (int what : none) {
            Due.is("tried(1, " + what + ")", x.tried(1, what), -1);
        }
        Due.is("tried(0, 0)", x.tried(0, 0), -1);
        Due.is("tried(101, 0)", x.tried(101, 0), -1);
        Due.is("tried(-1, 0)", x.tried(-1, 0), -1);
        x.days(1);
        Due.is("only the SALES in them", x.tried(1, 0), 11);
        Due.is("MONEY of all, that of before too", x.tried(1, 1), 32);
        x = with("0:900-0", "vw(0=0)");
        x.seed(77);
        int tried = x.tried(9, 0);
        Due.is("by the DRAWS that will come", x.days(9), tried);
    }

    private static void stallIs() {
        OnlyDifferences x = with("2:9-1", "");
        Due.is("stallIs(2, 4)", x.stallIs(2, 4), -1);
        Due.is("stallIs(2, -1)", x.stallIs(2, -1), -1);
        Due.is("stallIs(1, 0)", x.stallIs(1, 0), -1);
        Due.is("stallIs(8, 0)", x.stallIs(8, 0), -1);
        Due.is("stallIs(-1, 0)", x.stallIs(-1, 0), -1);
        Due.is("stallIs(34, 0)", x.stallIs(34, 0), -1);
        stallIs(x, 2, 9, 1, 0, 0);
    }

    private static void soonest() {
        OnlyDifferences x = with("0:11-0;1:5-0;2:3-3", "");
        Due.is("soonest(0, 100)", x.soonest(0, 100), 3);
        Due.is("soonest(0, 3)", x.soonest(0, 3), 3);
        Due.is("soonest(0, 2)", x.soonest(0, 2), -2);
        Due.is("soonest(1, 1)", x.soonest(1, 1), 1);
        Due.is("soonest(2, 100)", x.soonest(2, 100), -2);
        Due.is("soonest(3, 1)", x.soonest(3, 1), -1);
        Due.is("soonest(8, 1)", x.soonest(8, 1), -1);
        Due.is("soonest(-1, 1)", x.soonest(-1, 1), -1);
        Due.is("soonest(0, 0)", x.soonest(0, 0), -1);
        Due.is("soonest(0, 101)", x.soonest(0, 101), -1);
        Due.is("THE DAY", x.count(0), 0);
        Due.is("X", x.count(6), 1);
        stallIs(x, 1, 5, 0, 0, 0);
        x = with("0:5-0", "r10(0=0)");
        x.days(1);
        Due.is("once more", x.soonest(0, 9), 2);
    }

    private static void richest() {
        OnlyDifferences x = with("4:9-0;2:9-0;7:9-0", "y2(k=7&t=1)");
        Due.is("of like ones the lowest", x.richest(), 2);
        x.days(1);
        Due.is("all like still", x.richest(), 2);
        x.days(1);
        Due.is("the most", x.richest(), 7);
    }

    private static void seed() {
        OnlyDifferences x = with("0:900-0", "vw(0=0)");
        Due.is("seed(65535)", x.seed(65535), true);
        Due.is("X", x.count(6), 65535);
        Due.is("by it", x.days(1), draws(65535, 1) % 10);
        Due.is("X then", x.count(6), draws(65535, 1));
        Due.is("seed(-1)", x.seed(-1), false);
        Due.is("seed(65536)", x.seed(65536), false);
        Due.is("X then", x.count(6), draws(65535, 1));
        Due.is("seed(0)", x.seed(0), true);
        Due.is("by 0", x.days(2), draws(0, 1) % 10 + draws(0, 2) % 10);
    }

    private static void keepAndUndo() {
        OnlyDifferences x = with("0:50-0;3:60-0", "");
        x.days(2);
        Due.is("keep", x.keep(), 2);
        int kept = x.count(6);
        x.days(3);
        x.seed(9);
        Due.is("undo", x.undo(), true);
        stallIs(x, 0, 40, 0, 10, 0);
        stallIs(x, 3, 50, 0, 10, 0);
        Due.is("THE DAY", x.count(0), 2);
        Due.is("X", x.count(6), kept);
        Feed.law(x, "v1(0=0)");
        Feed.claims(x, "a-b=1");
        Feed.stock(x, "1:9-0;3:8-0");
        x.days(1);
        Feed.text(x, "abc");
        Due.is("undo again", x.undo(), true);
        stallIs(x, 0, 40, 0, 10, 0);
        stallIs(x, 1, 8, 0, 1, 0);
        stallIs(x, 3, 50, 0, 10, 0);
        Due.is("told", x.count(1), 11);
        Due.is("THE LAW stays", x.count(4), 1);
        Due.is("CLAIMS stay", x.count(2), 1);
        Due.is("the tape stays", x.count(5), 20);
        Due.is("keep of others", x.keep(), 2);
        x.days(1);
        Due.is("undo", x.undo(), true);
        stallIs(x, 1, 8, 0, 1, 0);
        x = new OnlyDifferences();
        Due.is("keep of none", x.keep(), 0);
        Feed.stock(x, "5:9-2");
        x.days(1);
        Due.is("undo of none", x.undo(), true);
        stallIs(x, 5, 4, 2, 5, 0);
        Due.is("THE DAY of none", x.count(0), 0);
        Due.is("X of none", x.count(6), 1);
    }

    private static void check() {
        OnlyDifferences x = with("0:300-10;1:9-2;3:255-0", "");
        check(x, -1, 290 - 256, 7, 255, 255, 255, 255, 255, 255);
        check(x, -1, 34);
        check(x, 0, 35, 7);
        check(x, 1, 34, 8, 0);
        check(x, 2, 34, 7, 0);
        check(x, 7, 34, 7, 255, 255, 255, 255, 255, 0);
        Feed.text(x, "abc");
        Due.is("check(9)", x.check(9), -2);
        Due.is("check(-1)", x.check(-1), -2);
        Due.is("the tape stays", x.count(5), 20);
        Due.is("check(0)", x.check(0), -1);
        Due.is("it is empty then", x.count(5), 0);
        Due.is("check(1) of none", x.check(1), -2);
        Due.is("check(0) of none", x.check(0), -1);
        x.days(1);
        check(x, -1, 29, 2, 255, 250);
    }

    private static void check(OnlyDifferences x, int want, int... bytes) {
        Feed.empty(x);
        Feed.bytes(x, bytes);
        Due.is("check(" + bytes.length + ")", x.check(bytes.length), want);
        Due.is("bytes behind it", x.count(5), 0);
    }

    private static void count() {
        OnlyDifferences x = with("0:30-10;6:9-2", "v3(0=0);y2(k=6)");
        Feed.claims(x, "c-l<4;d-c=1");
        x.days(2);
        Feed.text(x, "abc");
        int[] want = {2, 65, 2, 4 | 8 | 2048, 2, 20, draws(1, 4), 6 + 12, 14 + 1};
        for (int what = 0; what < want.length; what++) {
            Due.is("count(" + what + ")", x.count(what), want[what]);
        }
        Due.is("count(9)", x.count(9), -1);
        Due.is("count(-1)", x.count(-1), -1);
    }
}
