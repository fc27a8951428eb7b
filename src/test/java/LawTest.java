/** Promise 3: THE LAW as a text, its FAULTS, and what its E and C come to. */
public final class LawTest {
    public static void main(String[] args) {
        taken();
        faults();
        digits();
        rules();
        depths();
        refused();
        reckoned();
        letters();
        asked();
        holds();
        Due.end();
    }

    private static void law(String text, int want) {
        OnlyDifferences x = new OnlyDifferences();
        Feed.law(x, "v3(0=0);y1(0=0);x(k=1)");
        Due.is("law " + text, Feed.law(x, text), want);
        Due.is("bytes behind " + text, x.count(5), 0);
        Due.is("RULES behind " + text, x.count(4), want < 0 ? 3 : want);
        if (want < 0) {
            Feed.stock(x, "0:50-0;1:50-0");
            Due.is("the one before behind " + text, x.days(1), 3);
        }
    }

    private static void taken() {
        law("v5(0=0)", 1);
        law("x(k=1)", 1);
        law("v5(0=0);y99(k<8|t>3&n=0);r[1+2]*3(!(u=l));x(w<5)", 4);
        law("vkulgmnotw", -1002);
        law("vk+u-l*g/m%n+o-t*w(0=0)", 1);
        law("x(!!0=0)", 1);
        law("x((0=0))", 1);
        law("x((0=0)&(0=1)|!(1=1))", 1);
        law("x([1]=[2])", 1);
    }

    private static void faults() {
        law("z5(0=0)", -1000);
        law("(0=0)", -1000);
        law(" v5(0=0)", -1000);
        law("v(0=0)", -1001);
        law("v", -1001);
        law("v-5(0=0)", -1001);
        law("vv(0=0)", -1001);
        law("v5", -1002);
        law("v5 (0=0)", -1002);
        law("v5+(0=0)", -1003);
        law("v5(", -1003);
        law("v5()", -1003);
        law("v5(0)", -1004);
        law("v5(0", -1004);
        law("v5(0=", -1005);
        law("v5(0=)", -1005);
        law("v5(0==0)", -1005);
        law("v5(0=0", -1006);
        law("v5(0=0=0)", -1006);
        law("v5(0=0]", -1006);
        law("v5(0=0)x", -1007);
        law("v5(0=0))", -1007);
        law("v5(0=0);", -1008);
        law("v5(0=0);v", -1009);
        law("v5(0=0&)", -1007);
        law("v5(0=0|)", -1007);
        law("v5(!)", -1004);
        law("v5(0!=0)", -1004);
        law("v5((0)=0)", -1005);
        law("v[5(0=0)", -1003);
        law("v[5]](0=0)", -1004);
        law("v[](0=0)", -1002);
        law("x5(0=0)", -1001);
        law("x", -1001);
        law("v5((0=0)=0)", -1008);
        law("v5([0=0])", -1005);
        law("v5(a=0)", -1003);
        law("v5(0=0)\0", -1007);
        law("v5(0=0\u00ff", -1006);
    }

    private static void digits() {
        law("v99999(0=0)", 1);
        law("v123456(0=0)", -2006);
        law("v000000", -2006);
        law("v1(0=123456)", -2010);
    }

    private static String many(int rules) {
        StringBuilder text = new StringBuilder();
        for (int i = 0; i < rules; i++) {
            text.append(i == 0 ? "" : ";").append("v").append(i % 10).append("(k=").append(i % 10).append(")");
        }
        return text.toString();
    }

    private static void rules() {
        law(many(16), 16);
        law(many(16) + ";v", -4128);
        law(many(16) + ";y", -4128);
        law(many(16) + ";r", -4128);
        law(many(16) + ";x", -4128);
        law(many(16) + ";z", -1128);
        law(many(16) + ";", -1128);
        law(many(17), -4128);
    }

    private static void depths() {
        law("v[[[[[[1]]]]]](0=0)", 1);
        law("v[[[[[[[1]]]]]]](0=0)", -5007);
        law("v[[[[[[[", -5007);
        law("x((((((0=0))))))", 1);
        law("x(((((((0=0)))))))", -5007);
        law("x(!!!!!0=0)", 1);
        law("x(!!!!!!0=0)", -5007);
        law("x(!(!(!0=0)))", 1);
        law("x(!(!(!(0=0))))", -5007);
        law("x(!(!(![0]=0)))", -5007);
        law("x(!(!([0]=0)))", 1);
        law("x(!(!([[0]]=0)))", -5007);
        law("x(!!!!!0=0&!!!!!1=1|(((((2=2))))))", 1);
        law("x(!!!!0=0&!!!!!1=1)", 1);
        law("x(!!!!!0=0&!!!!!!1=1)", -5016);
        law("x([[[[[0]]]]]=[[[[[1]]]]])", 1);
        law("x([[[[[0]]]]]=[[[[[[1]]]]]])", -5019);
        law("v[[[[[[1]]]]]]((((((0=0))))))", 1);
        law("x(!!!!!(", -5007);
        law("x(!!!!!)", -1007);
        law("x(!!!!![", -5007);
        law("v[1]+[[[[[[2]]]]]]*[[[[[[[", -5025);
    }

    private static void refused() {
        OnlyDifferences x = new OnlyDifferences();
        Feed.text(x, "v5(0=0)");
        Due.is("law(0)", x.law(0), -1);
        Due.is("law(-1)", x.law(-1), -1);
        Due.is("law(21)", x.law(21), -1);
        for (int i = 0; i < 12; i++) {
            x.feed(0, 0, 0, 0, 0);
        }
        Due.is("law(241)", x.law(241), -1);
        Due.is("the tape stays", x.count(5), 260);
        Due.is("law(240)", x.law(240), -1007);
        Due.is("it is empty then", x.count(5), 0);
        Due.is("law(1) of none", x.law(1), -1);
    }

    /** What an E comes to (0 to 999), as SALES of one DAY by it. */
    private static void sold(String value, int want) {
        OnlyDifferences x = new OnlyDifferences();
        Feed.stock(x, "0:5000-0");
        Due.is("law v" + value, Feed.law(x, "v" + value + "(0=0)"), 1);
        Due.is("E " + value, x.days(1), want);
    }

    private static void reckoned() {
        sold("7", 7);
        sold("007", 7);
        sold("2+3*4", 14);
        sold("[2+3]*4", 20);
        sold("20-5-3", 12);
        sold("20-[5-3]", 18);
        sold("100/7", 14);
        sold("100%7", 2);
        sold("100/7*7", 98);
        sold("7*100/8%50", 37);
        sold("[0-7]/2+100", 97);
        sold("[0-7]%4+100", 97);
        sold("7/[0-2]+100", 97);
        sold("999+1", 999);
        sold("0-1", 0);
        sold("1/0", 0);
        sold("5+1%0", 0);
        sold("5+0*[1/0]", 0);
        sold("65536*65536+3", 3);
        sold("65536*32768", 0);
        sold("65536*32768-1", 999);
        sold("65536*32768/[0-1]", 0);
        sold("65536*32768/[0-1]-1", 999);
        sold("65536*32768%[0-1]+4", 4);
        sold("99999*99999/10000/10", 999);
        sold("[99999*99999]/10000/1000", 140);
    }

    private static void letters() {
        OnlyDifferences x = new OnlyDifferences();
        Feed.stock(x, "1:900-0;3:700-600;4:800-650;6:150-100");
        Feed.law(x, "v10*k+n(0=0)");
        Due.is("k", x.days(1), 10 + 30 + 40 + 50);
        Due.is("SOLD OUT of 6", x.stallIs(6, 3), 1);
        Feed.law(x, "vu%10*10+l%9(k=3);v0(0=0)");
        Due.is("u, l", x.days(1), 670 % 10 * 10 + 600 % 9);
        Feed.law(x, "vg/2(k=3);v0(0=0)");
        Due.is("g", x.days(1), x.stallIs(3, 0) - 600);
        x = new OnlyDifferences();
        Feed.stock(x, "0:900-0;1:900-0;2:300-0;3:100-0;5:100-100");
        Feed.law(x, "v10(0=0);y99(k=2)");
        x.days(1);
        Feed.law(x, "vm(k=2);v0(0=0)");
        Due.is("m", x.days(1), 9);
        Feed.law(x, "vo*100+1(k=3);v0(0=0)");
        Due.is("o", x.days(1), 90);
        Feed.law(x, "vo*100+1(k=2);v0(0=0)");
        Due.is("o of 2", x.days(1), 201);
        Feed.law(x, "vo*100+1(k=1);v0(0=0)");
        Due.is("like ones are not more", x.days(1), 1);
        Feed.law(x, "vo*100+1(k=0);v0(0=0)");
        Due.is("none has more", x.days(1), 1);
        Feed.stock(x, "0:9999-0");
        Feed.law(x, "vt(0=0)");
        for (int day = x.count(0); day < 120; day++) {
            Due.is("t of DAY " + day, x.days(1), day % 100);
        }
        Feed.stock(x, "0:9999-0");
        Feed.law(x, "vn(n>0);v999(0=0);r7(n=1)");
        x.days(11);
        Due.is("SOLD OUT", x.stallIs(0, 3), 1);
        Due.is("n", x.days(1), 1);
        x.seed(5);
        Feed.law(x, "v100*w(0=0)");
        Feed.stock(x, "0:9999-0");
        Due.is("w", x.days(1), 100 * ((25173 * 5 + 13849) % 65536 % 10));
    }

    private static void asked() {
        OnlyDifferences x = new OnlyDifferences();
        Feed.stock(x, "0:500-0");
        Feed.law(x, "y2(0=0)");
        Due.is("no v: 5", x.days(1), 5);
        Due.is("by 2", x.stallIs(0, 2), 10);
        Feed.law(x, "v7(0=1)");
        Due.is("none of v holds: 5", x.days(1), 5);
        Due.is("no y: 1", x.stallIs(0, 2), 15);
        Feed.law(x, "v7(0=1);y9(0=0);v8(0=0);v9(0=0)");
        Due.is("the first that holds", x.days(1), 8);
        Due.is("the first of y", x.stallIs(0, 2), 15 + 72);
        Feed.law(x, "x(0=1);x(0=0);x(0=1)");
        Due.is("any x will do", x.days(1), 0);
        Due.is("shut", x.stallIs(0, 0), 482);
        Feed.law(x, "x(0=1)");
        Due.is("no x holds", x.days(1), 5);
        Feed.stock(x, "0:5-0");
        x.days(1);
        Due.is("no r: 0", x.stallIs(0, 0), 0);
    }

    /** Whether a C holds: then 7 are sold, else 3. */
    private static void holds(String test, boolean want) {
        OnlyDifferences x = new OnlyDifferences();
        Feed.stock(x, "0:500-0");
        Due.is("law v7(" + test + ")", Feed.law(x, "v7(" + test + ");v3(0=0)"), 2);
        Due.is("C " + test, x.days(1), want ? 7 : 3);
    }

    private static void holds() {
        holds("1<2", true);
        holds("2<2", false);
        holds("2>1", true);
        holds("2>2", false);
        holds("2=2", true);
        holds("2=3", false);
        holds("!2=3", true);
        holds("!!2=3", false);
        holds("0-1<0", true);
        holds("1=1&2=3", false);
        holds("1=1|2=3", true);
        holds("1=2|2=3", false);
        holds("1=2&2=2|3=3", true);
        holds("3=3|1=2&2=3", true);
        holds("1=2&(2=2|3=3)", false);
        holds("(1=2|2=2)&3=3", true);
        holds("!1=2&1=1", true);
        holds("!1=1&1=1", false);
        holds("!1=1|1=1", true);
        holds("!(1=1&1=2)", true);
        holds("1=2&1=1&1=1", false);
        holds("1=1&1=2&1=1", false);
        holds("1=1|1=2|1=2", true);
        holds("1=2|1=2|1=1", true);
        holds("1=2&1=1|1=2&1=1|1=1&1=1", true);
        // REFUSED: the whole C does not hold, but only where it is asked.
        holds("1/0=0", false);
        holds("!1/0=0", false);
        holds("!(1/0=1|0=0)", false);
        holds("1=1|1/0=0", true);
        holds("1/0=0|1=1", false);
        holds("1=2&1/0=0", false);
        holds("1=2&1/0=0|1=1", true);
        holds("1=1&1/0=0|1=1", false);
        holds("(1=1|1/0=0)&2=2", true);
        holds("!(1=2&1%0=0)", true);
        holds("1=2|1%0=0", false);
        holds("0=1&1/0=0|0=1&1/0=0|2=2", true);
    }
}
