/**
 * Promises 1 and 30 to 39 at their edges, and what THE LAW comes to at its bounds: none and all STALLS, the first
 * and the last DAY, the most and the least of v, y, r, MONEY, UPPER and SOLD OUT, and what goes round modulo.
 */
public final class MarketEdgesTest {
    private static final String ALL = "0:10-0;1:20-0;2:30-0;3:40-0;4:50-0;5:60-0;6:70-0;7:80-0";

    public static void main(String[] args) {
        newObject();
        twoObjects();
        noLaw();
        boundsOfSales();
        boundsOfPrice();
        boundsOfRise();
        stallsByNumbers();
        shut();
        soldOut();
        soldOutAsked();
        mostMoney();
        mostUpper();
        mostSoldOut();
        lettersAtEdges();
        dayModulo();
        draws();
        wraps();
        refusedReckonings();
        lastDays();
        triedAtEdges();
        soonest();
        richest();
        keepAndUndo();
        check();
        count();
        Due.end();
    }

    private static OnlyDifferences with(String stock, String law) {
        OnlyDifferences x = new OnlyDifferences();
        Due.is("stock " + stock, Feed.stock(x, stock), stock.split(";").length);
        if (!law.isEmpty()) {
            Due.is("law " + law, Feed.law(x, law), law.split(";").length);
        }
        return x;
    }

    private static void stall(OnlyDifferences x, int k, int upper, int lower, int money, int soldOut) {
        Due.is("UPPER of " + k, x.stallIs(k, 0), upper);
        Due.is("LOWER of " + k, x.stallIs(k, 1), lower);
        Due.is("MONEY of " + k, x.stallIs(k, 2), money);
        Due.is("SOLD OUT of " + k, x.stallIs(k, 3), soldOut);
    }

    private static int drawn(int seed, int many) {
        long x = seed;
        for (int i = 0; i < many; i++) {
            x = (25173 * x + 13849) % 65536;
        }
        return (int) x;
    }

    // A new object, and two of them.

    private static void newObject() {
        OnlyDifferences x = new OnlyDifferences();
        int[] counts = {0, 0, 0, 0, 0, 0, 1, 0, 0};
        for (int what = 0; what < 9; what++) {
            Due.is("count " + what, x.count(what), counts[what]);
        }
        for (int k = -1; k < 9; k++) {
            Due.is("no STALL " + k, x.stallIs(k, 0), -1);
            Due.is("no STALL " + k + " to be tried", x.tried(1, 10 + k), -1);
            Due.is("no MONEY of " + k, x.tried(1, 20 + k), -1);
            Due.is("no SOONEST of " + k, x.soonest(k, 1), -1);
        }
        Due.is("RICHEST", x.richest(), -2);
        Due.is("SALES tried", x.tried(100, 0), 0);
        Due.is("MONEY tried", x.tried(100, 1), 0);
        Due.is("SOLD OUT tried", x.tried(100, 2), 0);
        Due.is("undone", x.undo(), false);
        Due.is("right of none", x.check(0), -1);
        Due.is("SALES", x.days(100), 0);
        Due.is("THE DAY", x.count(0), 100);
        Due.is("X of no DRAW", x.count(6), 1);
    }

    private static void twoObjects() {
        OnlyDifferences x = with(ALL, "v1(0=0)");
        OnlyDifferences y = new OnlyDifferences();
        Feed.claims(x, "a-b=1");
        x.seed(7);
        x.keep();
        x.days(3);
        Feed.text(x, "abc");
        for (int what = 0; what < 9; what++) {
            Due.is("count " + what + " of another one", y.count(what), what == 6 ? 1 : 0);
        }
        Due.is("KNOWN of another one", y.known(0, 1), -1000000);
        Due.is("KEPT of another one", y.undo(), false);
        Due.is("THE LAW of another one", Feed.stock(y, "0:9-0"), 1);
        Due.is("SALES of another one", y.days(1), 5);
        Due.is("THE DAY of the first", x.count(0), 3);
    }

    // v 0 to 999 (none: 5), y 0 to 99 (none: 1), r 0 to 999 (none: 0).

    private static void noLaw() {
        OnlyDifferences x = with("0:4-0;1:5-0;2:6-0;3:7-7", "");
        Due.is("5 each at most", x.days(1), 4 + 5 + 5);
        stall(x, 0, 0, 0, 4, 1);
        stall(x, 1, 0, 0, 5, 1);
        stall(x, 2, 1, 0, 5, 0);
        stall(x, 3, 7, 7, 0, 0);
        Due.is("what is left", x.days(1), 1);
        Due.is("nothing is left", x.days(100), 0);
        stall(x, 0, 0, 0, 4, 1);
        stall(x, 2, 0, 0, 6, 1);
    }

    private static void sells(String value, int want) {
        OnlyDifferences x = with("0:9999-0", "v" + value + "(0=0)");
        Due.is("v " + value, x.days(1), want);
        stall(x, 0, 9999 - want, 0, want, 0);
    }

    private static void boundsOfSales() {
        sells("0", 0);
        sells("0-1", 0);
        sells("0-99999*99999", 0);
        sells("1", 1);
        sells("998", 998);
        sells("999", 999);
        sells("1000", 999);
        sells("99999", 999);
        sells("32768*65535+32767", 999);
        sells("32768*65535+32768", 0);
    }

    private static void boundsOfPrice() {
        String[] price = {"0", "0-1", "1", "98", "99", "100", "99999", "1/0"};
        int[] want = {0, 0, 1, 98, 99, 99, 99, 0};
        for (int i = 0; i < price.length; i++) {
            OnlyDifferences x = with("0:9999-0", "y" + price[i] + "(0=0)");
            Due.is("SALES by y " + price[i], x.days(1), 5);
            stall(x, 0, 9994, 0, 5 * want[i], 0);
        }
    }

    private static void boundsOfRise() {
        String[] rise = {"0", "0-1", "1", "998", "999", "1000", "99999", "1%0"};
        int[] want = {0, 0, 1, 998, 999, 999, 999, 0};
        for (int i = 0; i < rise.length; i++) {
            OnlyDifferences x = with("0:7-2", "r" + rise[i] + "(0=0)");
            Due.is("SALES by r " + rise[i], x.days(1), 5);
            stall(x, 0, 2 + want[i], 2, 5, 1);
        }
    }

    /** By numbers, in whatever order they are told: each with the next DRAW, and as all is then. */
    private static void stallsByNumbers() {
        OnlyDifferences x = with("7:900-0;3:900-0;0:900-0", "vw(k=0);v10*w(k=3);v100*w(k=7)");
        x.days(1);
        stall(x, 0, 900 - drawn(1, 1) % 10, 0, drawn(1, 1) % 10, 0);
        stall(x, 3, 900 - drawn(1, 2) % 10 * 10, 0, drawn(1, 2) % 10 * 10, 0);
        stall(x, 7, 900 - drawn(1, 3) % 10 * 100, 0, drawn(1, 3) % 10 * 100, 0);
        Due.is("a DRAW each", x.count(6), drawn(1, 3));
        x = with("6:10-0;2:10-0", "v1+o*7(0=0)");
        Due.is("the later one sees what the one ahead has left", x.days(1), 1 + 1);
        Due.is("the one ahead sees what is", x.days(1), 1 + 1);
        x = with("6:11-0;2:10-0", "v1+o*7(0=0)");
        Due.is("the one ahead sees what is more", x.days(1), 8 + 1);
        Due.is("then it sees less", x.days(1), 2 + 1);
    }

    private static void shut() {
        OnlyDifferences x = with("0:10-0;1:10-0", "x(k=0);r9(0=0)");
        Due.is("one is shut", x.days(1), 5);
        stall(x, 0, 10, 0, 0, 0);
        stall(x, 1, 5, 0, 5, 0);
        Due.is("a shut one draws, too", x.count(6), drawn(1, 2));
        x = with("0:10-0", "x(0=1);x(0=1);x(0=0)");
        Due.is("any will do", x.days(1), 0);
        x = with("0:10-0", "x(1/0=0);x(0=0)");
        Due.is("one that is REFUSED does not hold, another one does", x.days(1), 0);
        x = with("0:10-0", "x(1/0=0)");
        Due.is("one that is REFUSED alone", x.days(1), 5);
        x = with("0:10-0", "x(0=1);v3(0=0)");
        Due.is("none holds", x.days(1), 3);
        x = with("0:10-0", "v3(0=0);y2(0=0);r1(0=0)");
        Due.is("without an x none is", x.days(1), 3);
    }

    private static void soldOut() {
        OnlyDifferences x = with("0:5-0;1:6-0;2:5-5;3:0-0", "");
        x.days(1);
        stall(x, 0, 0, 0, 5, 1);
        stall(x, 1, 1, 0, 5, 0);
        stall(x, 2, 5, 5, 0, 0);
        stall(x, 3, 0, 0, 0, 0);
        x.days(5);
        stall(x, 0, 0, 0, 5, 1);
        stall(x, 1, 0, 0, 6, 1);
        x = with("0:5-0;1:5-5", "v0(0=0);r9(0=0)");
        x.days(5);
        stall(x, 0, 5, 0, 0, 0);
        stall(x, 1, 5, 5, 0, 0);
        x = with("0:1-0", "v1(0=0);r1(0=0)");
        Due.is("each DAY once more", x.days(100), 100);
        stall(x, 0, 1, 0, 100, 100);
    }

    /** r is asked behind all that, SOLD OUT once more and the MONEY with it, with the same DRAW; x, v, y ahead. */
    private static void soldOutAsked() {
        int draw = drawn(1, 1) % 10;
        OnlyDifferences x = with("0:50-40", "v10(n=0&g=10&m=0&u=50);y10(n=0&m=0);r7(n=1&m=1&g=0&u=40&l=40)");
        x.days(1);
        stall(x, 0, 47, 40, 100, 1);
        x = with("0:50-40", "v10(0=0);r7(n=0);r8(w=" + draw + ")");
        x.days(1);
        stall(x, 0, 48, 40, 10, 1);
        x = with("0:9-0;1:9-0", "v9(0=0);rt+k*100+o(0=0)");
        x.days(1);
        stall(x, 0, 1, 0, 9, 1);
        stall(x, 1, 101, 0, 9, 1);
    }

    private static void mostMoney() {
        OnlyDifferences x = with("0:9999-0;1:9999-0", "v999(0=0);y99(0=0);r999(0=0)");
        x.days(10);
        Due.is("MONEY of ten DAYS", x.stallIs(0, 2), 989010);
        Due.is("between", x.stallIs(0, 0), 9);
        x.days(1);
        Due.is("MONEY of nine more", x.stallIs(0, 2), 989901);
        x.days(1);
        Due.is("999999 at most", x.stallIs(0, 2), 999999);
        Due.is("MONEY of both", x.count(7), 2 * 999999);
        Due.is("MONEY tried", x.tried(5, 20), 999999);
        Due.is("MONEY of both tried", x.tried(5, 1), 2 * 999999);
        Due.is("SALES all the same", x.days(1), 2 * 999);
        Feed.law(x, "v2(m=9999)");
        Due.is("m of the most", x.days(1), 4);
    }

    private static void mostUpper() {
        OnlyDifferences x = with("0:9999-9998;1:9500-9490;2:9010-9000", "v999(0=0);r999(0=0)");
        x.days(1);
        stall(x, 0, 9999, 9998, 1, 1);
        stall(x, 1, 9999, 9490, 10, 1);
        stall(x, 2, 9999, 9000, 10, 1);
        x = with("0:9010-9001;1:9009-8999", "v999(0=0);r999(0=0)");
        x.days(1);
        stall(x, 0, 9999, 9001, 9, 1);
        stall(x, 1, 9998, 8999, 10, 1);
        x = with("0:9999-9999", "r999(0=0)");
        x.days(9);
        stall(x, 0, 9999, 9999, 0, 0);
    }

    /** More than 9999 DAYS can bring it only by a STOCK that was not told when it was KEPT. */
    private static void mostSoldOut() {
        OnlyDifferences x = with("0:1-0", "r1(0=0)");
        x.keep();
        Feed.stock(x, "1:1-0");
        for (int i = 0; i < 101; i++) {
            x.days(100);
        }
        Due.is("THE DAY", x.count(0), 9999);
        stall(x, 1, 1, 0, 9999, 9999);
        x.undo();
        Due.is("THE DAY again", x.count(0), 0);
        Due.is("SALES", x.days(3), 6);
        stall(x, 0, 1, 0, 3, 3);
        stall(x, 1, 1, 0, 10002, 9999);
        Feed.law(x, "v1(n<9999);v0(0=0);r1(0=0)");
        Due.is("n of the most", x.days(1), 1);
    }

    private static int asked(OnlyDifferences x, String value, int k) {
        Due.is("law v" + value, Feed.law(x, "v" + value + "(k=" + k + ");v0(0=0)"), 2);
        return x.tried(1, 0);
    }

    private static void lettersAtEdges() {
        OnlyDifferences x = with("0:9999-0;3:9999-9998;7:9999-8999", "");
        Due.is("k of 0", asked(x, "k+1", 0), 1);
        Due.is("k of 7", asked(x, "k", 7), 7);
        Due.is("u", asked(x, "u-9990", 7), 9);
        Due.is("l of 0", asked(x, "l+1", 0), 1);
        Due.is("l", asked(x, "l-8990", 7), 9);
        Due.is("g of the most", asked(x, "g-9990", 0), 9);
        Due.is("g of 1", asked(x, "g", 3), 1);
        Due.is("o of the most between", asked(x, "o+1", 0), 1);
        Due.is("o", asked(x, "o+1", 7), 2);
        Due.is("o of the least", asked(x, "o-1", 3), 1);
        x = with("0:9-0;1:9-0;2:9-0;3:9-0;4:9-0;5:9-0;6:9-0;7:9-1", "");
        Due.is("o of like ones", asked(x, "o+1", 0), 1);
        Due.is("o of all others", asked(x, "o", 7), 7);
        x = with("0:9-9;2:9-5", "");
        Due.is("STALLS not told have none more", asked(x, "o+1", 2), 1);
        x = with("0:900-0", "v99(0=0)");
        x.days(1);
        Due.is("m of 99", asked(x, "m+1", 0), 1);
        Feed.law(x, "v1(0=0)");
        x.days(1);
        Due.is("m of 100", asked(x, "m+1", 0), 2);
        Feed.law(x, "v99(0=0)");
        x.days(1);
        Due.is("m of 199", asked(x, "m+1", 0), 2);
        Due.is("n of none", asked(x, "n+1", 0), 1);
    }

    private static void dayModulo() {
        OnlyDifferences x = with("0:9999-0", "vt(0=0)");
        Due.is("t of DAY 0", x.tried(1, 0), 0);
        Due.is("t of DAYS 0 to 99", x.tried(100, 0), 4950);
        Feed.law(x, "v0(0=0)");
        x.days(99);
        Feed.law(x, "vt(0=0)");
        Due.is("t of DAY 99", x.tried(1, 0), 99);
        Due.is("t of DAYS 99 and 100", x.tried(2, 0), 99);
        Due.is("t of DAYS 99 to 101", x.tried(3, 0), 100);
        Feed.law(x, "v0(0=0)");
        for (int i = 0; i < 98; i++) {
            x.days(100);
        }
        x.days(99);
        Due.is("THE DAY", x.count(0), 9998);
        Feed.law(x, "vt(0=0)");
        Due.is("t of the last DAY", x.tried(100, 0), 98);
    }

    private static void draws() {
        for (int seed : new int[] {0, 1, 2, 9, 10, 32767, 32768, 65534, 65535}) {
            OnlyDifferences x = with("0:9999-0;7:9999-0", "vw(k=0);v100*w(k=7)");
            Due.is("seed " + seed, x.seed(seed), true);
            int first = drawn(seed, 1) % 10;
            int second = drawn(seed, 2) % 10;
            Due.is("by DRAWS of " + seed, x.days(1), first + 100 * second);
            Due.is("X behind them", x.count(6), drawn(seed, 2));
            Due.is("X behind 200 DRAWS", x.days(99) >= 0 ? x.count(6) : -1, drawn(seed, 200));
        }
    }

    /** All is reckoned with 32 bits, as the machine does. */
    private static void wraps() {
        String most = "[32768*65535+32767]";
        String least = "[32768*65536]";
        sells(most + "+1-" + least, 0);
        sells(most + "+1-" + least + "+7", 7);
        sells(least + "-1-" + most + "+7", 7);
        sells(least + "/[0-1]-" + least + "+7", 7);
        sells(least + "%[0-1]+7", 7);
        sells(least + "*[0-1]-" + least + "+7", 7);
        sells(most + "*2+9", 7);
        sells("[0-" + least + "]-" + least + "+7", 7);
        sells("[0-7]/2+10", 7);
        sells("7/[0-2]+10", 7);
        sells("[0-7]%4+10", 7);
        sells("7%[0-4]+4", 7);
        sells("65536*65536+7", 7);
        sells("1-2-3+11", 7);
        sells("2+3*4-7", 7);
        sells("100/5/2-3", 7);
        sells("20%13*1", 7);
        holds("2<2", false);
        holds("2>2", false);
        holds("2=2", true);
        holds("2<3", true);
        holds("3>2", true);
        holds("2=3", false);
        holds("0-1<0", true);
        holds(most + "+1<0", true);
        holds(least + "-1>0", true);
        holds(most + ">" + least, true);
        holds(least + "<" + most, true);
        holds(most + "+1=" + least, true);
    }

    private static void holds(String test, boolean want) {
        OnlyDifferences x = with("0:500-0", "v7(" + test + ");v3(0=0)");
        Due.is("C " + test, x.days(1), want ? 7 : 3);
    }

    private static void refusedReckonings() {
        sells("1/0", 0);
        sells("1%0", 0);
        sells("9+1/0", 0);
        sells("9+0*[1/[k-k]]", 0);
        sells("0/1+9", 9);
        holds("1/0=1|0=0", false);
        holds("0=0|1/0=1", true);
        holds("0=1&1/0=1|0=0", true);
        holds("0=0&1/0=1|0=0", false);
        holds("!1/0=1", false);
        holds("!!1/0=1", false);
        holds("(0=0|1%0=0)&0=0", true);
        holds("(0=1|1%0=0)|0=0", false);
        holds("!(0=1&1%0=0)", true);
        holds("!(0=0|1%0=0)", false);
        holds("1=1/0", false);
        OnlyDifferences x = with("0:500-0", "v7(1/0=1);v1/0(0=0);v9(0=0)");
        Due.is("the first whose C holds, though its E is REFUSED", x.days(1), 0);
        x = with("0:500-0", "v1/0(0=1);v9(0=0)");
        Due.is("an E that is not asked", x.days(1), 9);
        x = with("0:500-0", "v100/g(0=0)");
        Due.is("divided by what is between", x.days(1), 0);
        x = with("0:50-0", "v100/g(0=0)");
        Due.is("divided by 50", x.days(1), 2);
    }

    /** THE DAY 9999 at most: then none goes by. */
    private static void lastDays() {
        OnlyDifferences x = with("0:9999-0", "v1(0=0)");
        for (int i = 0; i < 99; i++) {
            x.days(100);
        }
        Due.is("THE DAY", x.count(0), 9900);
        Due.is("as many as can, tried", x.tried(100, 0), 99);
        Due.is("what is between then", x.tried(100, 10), 0);
        Due.is("MONEY then", x.tried(100, 20), 9999);
        Due.is("SOLD OUT then", x.tried(100, 2), 1);
        Due.is("SOONEST", x.soonest(0, 100), 99);
        Due.is("SOONEST, one DAY less", x.soonest(0, 98), -2);
        Due.is("as many as can", x.days(100), 99);
        Due.is("THE DAY", x.count(0), 9999);
        Due.is("X", x.count(6), drawn(1, 9999));
        stall(x, 0, 0, 0, 9999, 1);
        Feed.stock(x, "0:9-0");
        Due.is("none goes by", x.days(1), 0);
        Due.is("none goes by, tried", x.tried(1, 0), 0);
        Due.is("MONEY tried", x.tried(1, 1), 0);
        Due.is("what is between, tried", x.tried(1, 10), 9);
        Due.is("SOONEST", x.soonest(0, 100), -2);
        Due.is("no DRAW", x.count(6), drawn(1, 9999));
        Due.is("THE DAY stays", x.count(0), 9999);
        Due.is("KEPT", x.keep(), 9999);
        Due.is("days(0) is refused still", x.days(0), -1);
        Due.is("days(101) is refused still", x.days(101), -1);
        stall(x, 0, 9, 0, 0, 0);
    }

    private static void triedAtEdges() {
        OnlyDifferences x = with(ALL, "v10(0=0)");
        Due.is("SALES of a DAY", x.tried(1, 0), 80);
        Due.is("MONEY of a DAY", x.tried(1, 1), 80);
        Due.is("SOLD OUT of a DAY", x.tried(1, 2), 1);
        Due.is("SALES of eight", x.tried(8, 0), 360);
        Due.is("SOLD OUT of eight", x.tried(8, 2), 8);
        Due.is("SALES of 100", x.tried(100, 0), 360);
        for (int k = 0; k < 8; k++) {
            Due.is("between of " + k, x.tried(1, 10 + k), 10 * k);
            Due.is("MONEY of " + k, x.tried(100, 20 + k), 10 * k + 10);
            stall(x, k, 10 * k + 10, 0, 0, 0);
        }
        Due.is("THE DAY", x.count(0), 0);
        Due.is("X", x.count(6), 1);
        x.keep();
        x.tried(100, 0);
        x.days(1);
        Due.is("KEPT is as it was", x.undo(), true);
        stall(x, 0, 10, 0, 0, 0);
    }

    private static void soonest() {
        OnlyDifferences x = with(ALL, "v10(0=0)");
        for (int k = 0; k < 8; k++) {
            Due.is("SOONEST of " + k, x.soonest(k, 100), k + 1);
            Due.is("just in time " + k, x.soonest(k, k + 1), k + 1);
            Due.is("a DAY too few " + k, k == 0 ? -2 : x.soonest(k, k), -2);
        }
        Due.is("nothing is changed", x.count(0), 0);
        x = with("0:100-0;1:5-5", "v1(0=0);r1(0=0)");
        Due.is("on the 100th", x.soonest(0, 100), 100);
        Due.is("not on the 99th", x.soonest(0, 99), -2);
        Due.is("nothing between: never", x.soonest(1, 100), -2);
        x.days(100);
        Due.is("once more", x.soonest(0, 1), 1);
    }

    private static void richest() {
        OnlyDifferences x = with("7:9-0", "");
        Due.is("one alone, of none", x.richest(), 7);
        x = with("7:9-0;3:9-0;5:9-0", "v1(0=0);y2(k=5);y2(k=7)");
        Due.is("of like ones the lowest", x.richest(), 3);
        x.days(1);
        Due.is("of the most the lowest", x.richest(), 5);
        Feed.stock(x, "7:9-0;6:9-0");
        Due.is("MONEY is none then", x.richest(), 6);
        x = with("1:9-0;0:9-0;7:9-0", "v1(0=0);y3(k=0&t=0);y9(k=7&t=1)");
        Due.is("the lowest of all", x.richest(), 0);
        x.days(1);
        Due.is("the lowest, by MONEY", x.richest(), 0);
        x.days(1);
        Due.is("the highest, by MONEY", x.richest(), 7);
    }

    private static void keepAndUndo() {
        OnlyDifferences x = with("0:50-0;1:50-0", "");
        Due.is("none was KEPT", x.undo(), false);
        Due.is("KEPT", x.keep(), 0);
        x.days(2);
        Due.is("KEPT last", x.keep(), 2);
        x.days(3);
        Due.is("UNDONE", x.undo(), true);
        stall(x, 0, 40, 0, 10, 0);
        Due.is("THE DAY", x.count(0), 2);
        Due.is("X", x.count(6), drawn(1, 4));
        Due.is("UNDONE again", x.undo(), true);
        stall(x, 0, 40, 0, 10, 0);
        Feed.stock(x, "1:7-0;2:9-0");
        x.days(1);
        Due.is("UNDONE behind a STOCK", x.undo(), true);
        stall(x, 0, 40, 0, 10, 0);
        stall(x, 1, 40, 0, 10, 0);
        stall(x, 2, 4, 0, 5, 0);
        Due.is("told", x.count(1), 7);
        x.seed(9);
        Due.is("UNDONE behind a SEED", x.undo(), true);
        Due.is("X", x.count(6), drawn(1, 4));
        x = new OnlyDifferences();
        x.seed(77);
        x.days(3);
        Due.is("KEPT without STALLS", x.keep(), 3);
        Feed.stock(x, "4:9-0");
        x.days(1);
        Due.is("UNDONE", x.undo(), true);
        stall(x, 4, 4, 0, 5, 0);
        Due.is("THE DAY", x.count(0), 3);
        Due.is("X", x.count(6), 77);
    }

    private static void checked(OnlyDifferences x, int want, int... bytes) {
        Feed.empty(x);
        Feed.bytes(x, bytes);
        Due.is("check of " + bytes.length, x.check(bytes.length), want);
        Due.is("bytes behind check of " + bytes.length, x.count(5), 0);
    }

    /** UPPER less LOWER, modulo 256; of STALLS not told 255. */
    private static void check() {
        OnlyDifferences x = with("0:255-0;1:256-0;2:257-0;3:511-0;4:9999-0;6:0-0;7:9999-9999", "");
        checked(x, -1, 255, 0, 1, 255, 15, 255, 0, 0);
        checked(x, 0, 254, 0, 1, 255, 15, 255, 0, 0);
        checked(x, 7, 255, 0, 1, 255, 15, 255, 0, 255);
        checked(x, 5, 255, 0, 1, 255, 15, 0, 0, 0);
        checked(x, 1, 255, 1, 2, 255, 15, 255, 0, 0);
        checked(x, -1, 255);
        checked(x, 0, 0);
        checked(x, -1, 255, 0);
        checked(x, 1, 255, 255);
        Due.is("right of none", x.check(0), -1);
        x = new OnlyDifferences();
        checked(x, -1, 255, 255, 255, 255, 255, 255, 255, 255);
        checked(x, 7, 255, 255, 255, 255, 255, 255, 255, 0);
        checked(x, 0, 0);
    }

    private static void count() {
        OnlyDifferences x = with("0:9999-0;1:9999-0;2:9999-0;3:9999-0;4:9999-0;5:9999-0;6:9999-0;7:9999-0", "");
        Due.is("all told", x.count(1), 255);
        Due.is("what is between in all", x.count(8), 8 * 9999);
        Due.is("MONEY of none", x.count(7), 0);
        Feed.claims(x, "a-l<0;b-k<0;c-j<0;d-i<0;e-h<0;f-g<0");
        Due.is("all THINGS", x.count(3), 4095);
        Due.is("CLAIMS", x.count(2), 6);
        Feed.claims(x, "a-l<0");
        Due.is("the first and the last THING", x.count(3), 2049);
        Feed.stock(x, "7:5-5");
        Due.is("the last alone", x.count(1), 128);
        Due.is("nothing between", x.count(8), 0);
        Due.is("no RULES", x.count(4), 0);
        for (int i = 0; i < 13; i++) {
            Due.is("bytes", x.count(5), 20 * i);
            x.feed(0, 0, 0, 0, 0);
        }
        Due.is("bytes of a full tape", x.count(5), 260);
    }
}
