/**
 * The edges of the three kinds of text: what can stand at each place and what can't, of all 256 signs; the longest
 * texts; the last LINE, RULE, digit and bracket that can be, and the first that can't; the places of FAULTS.
 */
public final class TextEdgesTest {
    private static final String DIGITS = "0123456789";
    private static final String LETTERS = "kulgmnotw";
    private static final String FACTOR = DIGITS + LETTERS + "[";
    private static final String BETWEEN = "+-*/%";

    private interface Reader {
        int read(String text);
    }

    public static void main(String[] args) {
        claimsSigns();
        claimsLines();
        claimsNumbers();
        claimsLongest();
        claimsJust();
        stockSigns();
        stockNumbers();
        stockLongest();
        lawSigns();
        lawDeepSigns();
        lawRules();
        lawNumbers();
        lawLongest();
        lawDepths();
        firstBytesAlone();
        Due.end();
    }

    private static int claims(String text) {
        return Feed.claims(new OnlyDifferences(), text);
    }

    private static int stock(String text) {
        return Feed.stock(new OnlyDifferences(), text);
    }

    private static int law(String text) {
        return Feed.law(new OnlyDifferences(), text);
    }

    /** Behind what is there each sign that can stand, with what is answered then; each other one is FAULT 1. */
    private static void signs(Reader reader, String there, Object... canStand) {
        for (int sign = 0; sign < 256; sign++) {
            int want = -1000 - there.length();
            for (int i = 0; i < canStand.length; i += 2) {
                want = ((String) canStand[i]).indexOf((char) sign) >= 0 ? (Integer) canStand[i + 1] : want;
            }
            Due.is("\"" + there + "\" and sign " + sign, reader.read(there + (char) sign), want);
        }
        if (!there.isEmpty()) {
            boolean isWhole = reader.read(there) > 0;
            Due.is("the end behind \"" + there + "\"", isWhole || reader.read(there) == -1000 - there.length(), true);
        }
    }

    // CLAIMS: a letter a to l, -, a letter, = < >, perhaps -, a number of one to four digits.

    private static void claimsSigns() {
        Reader reader = TextEdgesTest::claims;
        signs(reader, "", "abcdefghijkl", -1001);
        signs(reader, "l", "-", -1002);
        signs(reader, "a-", "bcdefghijkl", -1003, "a", -6002);
        signs(reader, "l-", "abcdefghijk", -1003, "l", -6002);
        signs(reader, "a-b", "=<>", -1004);
        for (String how : new String[] {"=", "<", ">"}) {
            signs(reader, "a-b" + how, DIGITS, 1, "-", -1005);
            signs(reader, "a-b" + how + "-", DIGITS, 1);
            signs(reader, "a-b" + how + "1", DIGITS, 1, ";", -1006);
            signs(reader, "a-b" + how + "123", DIGITS, 1, ";", -1008);
            signs(reader, "a-b" + how + "1234", DIGITS, -2008, ";", -1009);
            signs(reader, "a-b" + how + "-0000", DIGITS, -2009, ";", -1010);
        }
        signs(reader, "a-b=1;", "abcdefghijkl", -1007);
        signs(reader, "a-b=1;b", "-", -1008);
        signs(reader, "a-b=1;b-", "acdefghijkl", -1009, "b", -6008);
        signs(reader, "a-b=1;b-c<1", DIGITS, 2, ";", -1012);
        signs(reader, lines(40), DIGITS, 40, ";", -1240);
        signs(reader, lines(40) + ";", "abcdefghijkl", -4240);
        signs(reader, lines(39) + ";", "abcdefghijkl", -1235);
    }

    private static String lines(int many) {
        return "a-b<1" + ";a-b<1".repeat(many - 1);
    }

    private static void claimsLines() {
        Due.is("one LINE", claims(lines(1)), 1);
        Due.is("39 LINES", claims(lines(39)), 39);
        Due.is("40 LINES", claims(lines(40)), 40);
        Due.is("41 LINES", claims(lines(41)), -4240);
        Due.is("a 41st LINE of a THING and itself", claims(lines(40) + ";a-a<1"), -4240);
        Due.is("a 41st LINE that ends at once", claims(lines(40) + ";a"), -4240);
        Due.is("none but its ;", claims(lines(40) + ";"), -1240);
        OnlyDifferences x = new OnlyDifferences();
        Due.is("40 LINES", Feed.claims(x, lines(40)), 40);
        Due.is("one in place of 40", Feed.claims(x, "c-d>7"), 1);
        Due.is("one alone is there", x.count(2), 1);
        Due.is("no second one", x.claimIs(1, 0), -100000);
        Due.is("a FAULT leaves it", Feed.claims(x, lines(41)), -4240);
        Due.is("one alone is there still", x.count(2), 1);
        Due.is("it is that one", x.claimIs(0, 3), 7);
    }

    private static void number(String digits, int want) {
        for (int how = 0; how < 3; how++) {
            OnlyDifferences x = new OnlyDifferences();
            Due.is(digits, Feed.claims(x, "a-b" + "=<>".charAt(how) + digits), 1);
            Due.is("just, at most, at least " + digits, x.claimIs(0, 2), how);
            Due.is("by how much " + digits, x.claimIs(0, 3), want);
            int at = how == 2 ? 1 : 0;
            Due.is("BOUND by " + digits, x.bound(at, 1 - at), how == 2 ? -want : want);
            Due.is("BOUND the other way", x.bound(1 - at, at), how == 0 ? -want : 1000000);
        }
    }

    private static void claimsNumbers() {
        number("0", 0);
        number("-0", 0);
        number("0000", 0);
        number("-0000", 0);
        number("1", 1);
        number("-1", -1);
        number("0001", 1);
        number("999", 999);
        number("-999", -999);
        number("1000", 1000);
        number("9999", 9999);
        number("-9999", -9999);
        Due.is("a fifth digit", claims("a-b=10000"), -2008);
        Due.is("a fifth digit below 0", claims("a-b=-10000"), -2009);
        Due.is("a fifth 0", claims("a-b=00000"), -2008);
        Due.is("a fifth digit and no more", claims("a-b=00000x;"), -2008);
        Due.is("of two LINES", claims("a-b=0000;c-d=00000"), -2017);
    }

    /** LINES of so many bytes in all (five to nine each; never ten), none of them with =. */
    private static String claimsOf(int bytes) {
        String[] byLength = {"a-b<1", "a-b<01", "a-b<001", "a-b<0001", "a-b<-0001"};
        StringBuilder text = new StringBuilder();
        int left = bytes;
        while (left > 9) {
            int length = 9;
            while (left - length - 1 < 5 || left - length - 1 == 10) {
                length--;
            }
            text.append(byLength[length - 5]).append(';');
            left = bytes - text.length();
        }
        return text.append(byLength[left - 5]).toString();
    }

    private static void claimsLongest() {
        for (int bytes = 20; bytes <= 250; bytes++) {
            String text = claimsOf(bytes);
            Due.is("bytes of " + text, text.length(), bytes);
            Due.is(text, claims(text), text.split(";").length);
        }
        Due.is("the end at 250", claims(claimsOf(249) + ";"), -1250);
        Due.is("what can't stand at 249", claims(claimsOf(249) + "x"), -1249);
        Due.is("a fifth digit at 249", claims(claimsOf(240) + ";a-b<00000".substring(0, 10)), -2249);
        Due.is("a THING and itself at 249", claims(claimsOf(246) + ";a-a"), -6249);
        Due.is("= that can't be, the last LINE", claims("a-b=1;" + claimsOf(238) + ";a-b=2"), -8245);
        String forty = "a-b<1;".repeat(31) + "a-b<01;".repeat(9);
        Due.is("a 41st LINE at 249", claims(forty + "a"), -4249);
        Due.is("the end there", claims(forty), -1249);
    }

    // One with = that can't be with those ahead: at its first letter, when it ends; also by several.

    private static void claimsJust() {
        Due.is("the same again", claims("a-b=7;a-b=7"), 2);
        Due.is("one more", claims("a-b=7;a-b=8"), -8006);
        Due.is("one less", claims("a-b=7;a-b=6"), -8006);
        Due.is("the other way", claims("a-b=7;b-a=-7"), 2);
        Due.is("the other way, one more", claims("a-b=7;b-a=-6"), -8006);
        Due.is("0 both ways", claims("a-b=0;b-a=-0"), 2);
        Due.is("by two", claims("a-b=7;b-c=5;a-c=12"), 3);
        Due.is("by two, one more", claims("a-b=7;b-c=5;a-c=13"), -8012);
        String eleven = "a-b=9;b-c=9;c-d=9;d-e=9;e-f=9;f-g=9;g-h=9;h-i=9;i-j=9;j-k=9;k-l=9";
        Due.is("by eleven", claims(eleven + ";a-l=99"), 12);
        Due.is("by eleven, one less", claims(eleven + ";a-l=98"), -8066);
        Due.is("by eleven, the other way", claims(eleven + ";l-a=-99"), 12);
        Due.is("by groups joined last", claims("a-b=1;c-d=1;e-f=1;b-c=1;d-e=1;a-f=5;f-a=-5"), 7);
        Due.is("by groups joined last, one more", claims("a-b=1;c-d=1;e-f=1;b-c=1;d-e=1;f-a=-4"), -8030);
        Due.is("beyond what one tells", claims("a-b=9999;b-c=9999;a-c=9999"), -8018);
        Due.is("the first of two", claims("a-b=1;a-b=2;a-b=3"), -8006);
        Due.is("ahead of what comes", claims("a-b=1;a-b=2;z"), -8006);
        Due.is("behind what is ahead", claims("a-b=1;a=b;a-b=2"), -1007);
        Due.is("asked when it ends: a digit more mends it", claims("a-b=12;a-b=12"), 2);
        Due.is("asked when it ends: the end is ahead of it", claims("a-b=1;a-b="), -1010);
        Due.is("asked when it ends: a fifth digit is ahead of it", claims("a-b=1;a-b=00002"), -2014);
        Due.is("those with < are not asked", claims("a-b<1;b-a<-2;a-b=5"), 3);
        Due.is("those with > are not asked", claims("a-b=5;a-b>6;b-a>6"), 3);
        Due.is("those behind are not asked", claims("a-b=1;c-d=1;d-e=1"), 3);
    }

    // A STOCK: a digit 0 to 7, :, a number, -, a number.

    private static void stockSigns() {
        Reader reader = TextEdgesTest::stock;
        signs(reader, "", "01234567", -1001);
        signs(reader, "7", ":", -1002);
        signs(reader, "0:", DIGITS, -1003);
        signs(reader, "0:9", DIGITS + "-", -1004);
        signs(reader, "0:999", DIGITS + "-", -1006);
        signs(reader, "0:9999", DIGITS, -2006, "-", -1007);
        signs(reader, "0:9-", DIGITS, 1);
        signs(reader, "0:5-", "012345", 1, "6789", -3004);
        signs(reader, "0:15-1", "012345", 1, "6789", -3005, ";", -1007);
        signs(reader, "0:9999-999", DIGITS, 1, ";", -1011);
        signs(reader, "0:9999-9999", DIGITS, -2011, ";", -1012);
        signs(reader, "0:0-0;", "1234567", -1007, "0", -6006);
        signs(reader, "0:0-0;7:0-0;", "123456", -1013, "07", -6012);
        signs(reader, eight(), ";", -1048, "01", 8, "23456789", -3046);
        signs(reader, eight() + ";", "01234567", -6048);
        Due.is("eight", stock(eight()), 8);
    }

    private static String eight() {
        return "0:1-0;1:1-0;2:1-0;3:1-0;4:1-0;5:1-0;6:1-0;7:1-0";
    }

    private static void weights(String most, String least, int upper, int lower) {
        OnlyDifferences x = new OnlyDifferences();
        Due.is(most + "-" + least, Feed.stock(x, "4:" + most + "-" + least), 1);
        Due.is("UPPER of " + most, x.stallIs(4, 0), upper);
        Due.is("LOWER of " + least, x.stallIs(4, 1), lower);
        Due.is("MONEY", x.stallIs(4, 2), 0);
        Due.is("SOLD OUT", x.stallIs(4, 3), 0);
        Due.is("which", x.count(1), 16);
    }

    private static void stockNumbers() {
        weights("0", "0", 0, 0);
        weights("0000", "0000", 0, 0);
        weights("9999", "0", 9999, 0);
        weights("9999", "9999", 9999, 9999);
        weights("0012", "12", 12, 12);
        weights("12", "0011", 12, 11);
        Due.is("LOWER one above", stock("4:12-13"), -3005);
        Due.is("LOWER one above, with 0 ahead", stock("4:12-0013"), -3005);
        Due.is("LOWER far above", stock("4:0-9999"), -3004);
        Due.is("LOWER above by a digit more", stock("4:12-120"), -3005);
        Due.is("a fifth digit of UPPER", stock("4:00000-0"), -2006);
        Due.is("a fifth digit of LOWER", stock("4:0-00000"), -2008);
        Due.is("a fifth digit ahead of what is above", stock("4:0-99999"), -2008);
        Due.is("the end ahead of what is above", stock("4:0-"), -1004);
        Due.is("above in the last LINE", stock("4:1-1;5:1-2"), -3010);
        Due.is("above, then told twice", stock("4:1-2;4:1-1"), -3004);
        Due.is("told twice, then above", stock("4:1-1;4:1-2"), -6006);
        Due.is("told twice, though alike", stock("4:1-1;5:1-1;4:1-1"), -6012);
        Due.is("told twice, though it ends there", stock("4:1-1;4"), -6006);
    }

    private static void stockLongest() {
        String longest = "0:9999-9999;1:9999-9999;2:9999-9999;3:9999-9999;4:9999-9999;5:9999-9999;6:9999-9999;7:9999-9999";
        Due.is("bytes of the longest", longest.length(), 95);
        Due.is("the longest", stock(longest), 8);
        Due.is("the end behind it", stock(longest + ";"), -1096);
        Due.is("a ninth LINE", stock(longest + ";0:9999-9999" + "9".repeat(53)), -6096);
        Due.is("an 8 behind it", stock(longest + ";" + "8".repeat(64)), -1096);
        Due.is("160 bytes of one number", stock("0:" + "9".repeat(158)), -2006);
        OnlyDifferences x = new OnlyDifferences();
        Due.is("the longest", Feed.stock(x, longest), 8);
        Due.is("in place of all ahead", Feed.stock(x, "3:2-1"), 1);
        Due.is("which then", x.count(1), 8);
        Due.is("what is between in all then", x.count(8), 1);
    }

    // THE LAW: a letter, E, and (C), of x only (C).

    private static void lawSigns() {
        Reader reader = TextEdgesTest::law;
        signs(reader, "", "vyrx", -1001);
        signs(reader, "v", FACTOR, -1002);
        signs(reader, "y", FACTOR, -1002);
        signs(reader, "r", FACTOR, -1002);
        signs(reader, "x", "(", -1002);
        signs(reader, "v5", DIGITS + BETWEEN + "(", -1003);
        signs(reader, "vk", BETWEEN + "(", -1003);
        signs(reader, "v5+", FACTOR, -1004);
        signs(reader, "v5-", FACTOR, -1004);
        signs(reader, "v5*", FACTOR, -1004);
        signs(reader, "v5/", FACTOR, -1004);
        signs(reader, "v5%", FACTOR, -1004);
        signs(reader, "v[", FACTOR, -1003);
        signs(reader, "v[5", DIGITS + BETWEEN + "]", -1004);
        signs(reader, "v[5]", BETWEEN + "(", -1005);
        signs(reader, "v5(", FACTOR + "(!", -1004);
        signs(reader, "x(", FACTOR + "(!", -1003);
        signs(reader, "x(!", FACTOR + "(!", -1004);
        signs(reader, "x((", FACTOR + "(!", -1004);
        signs(reader, "x(0", DIGITS + BETWEEN + "<=>", -1004);
        signs(reader, "x(k", BETWEEN + "<=>", -1004);
        signs(reader, "x([0", DIGITS + BETWEEN + "]", -1005);
        signs(reader, "x([0]", BETWEEN + "<=>", -1006);
        signs(reader, "x(0=", FACTOR, -1005);
        signs(reader, "x(0=k", BETWEEN + "&|", -1006, ")", 1);
        signs(reader, "x(0<0", DIGITS + BETWEEN + "&|", -1006, ")", 1);
        signs(reader, "x((0>0", DIGITS + BETWEEN + "&|)", -1007);
        signs(reader, "x((0=0)", "&|", -1008, ")", 1);
        signs(reader, "x(!(0=0)", "&|", -1009, ")", 1);
        signs(reader, "x(0=0&", FACTOR + "(!", -1007);
        signs(reader, "x(0=0|", FACTOR + "(!", -1007);
        signs(reader, "x(0=0)", ";", -1007);
        signs(reader, "x(0=0);", "vyrx", -1008);
    }

    private static void lawDeepSigns() {
        Reader reader = TextEdgesTest::law;
        String plain = DIGITS + LETTERS;
        signs(reader, "v[[[[[", FACTOR, -1007);
        signs(reader, "v[[[[[[", plain, -1008, "[", -5007);
        signs(reader, "x(((((", FACTOR + "(!", -1007);
        signs(reader, "x((((((", plain, -1008, "([!", -5007);
        signs(reader, "x(!!!!!", plain, -1008, "([!", -5007);
        signs(reader, "x([[[[[", plain, -1008, "[", -5007);
        signs(reader, "x(!(!([", plain, -1008, "[", -5007);
    }

    private static String rules(int many) {
        return "v1(0=0)" + ";v1(0=0)".repeat(many - 1);
    }

    private static void lawRules() {
        Due.is("one RULE", law(rules(1)), 1);
        Due.is("15 RULES", law(rules(15)), 15);
        Due.is("16 RULES", law(rules(16)), 16);
        Due.is("17 RULES", law(rules(17)), -4128);
        Due.is("none but its ;", law(rules(16) + ";"), -1128);
        signs(TextEdgesTest::law, rules(15) + ";", "vyrx", -1121);
        signs(TextEdgesTest::law, rules(16), ";", -1128);
        signs(TextEdgesTest::law, rules(16) + ";", "vyrx", -4128);
        Due.is("a 17th RULE that can't be", law(rules(16) + ";v("), -4128);
        OnlyDifferences x = new OnlyDifferences();
        Due.is("16 RULES", Feed.law(x, rules(16)), 16);
        Due.is("one in place of 16", Feed.law(x, "x(0=1)"), 1);
        Due.is("one alone is there", x.count(4), 1);
        Due.is("a FAULT leaves it", Feed.law(x, rules(17)), -4128);
        Due.is("one alone is there still", x.count(4), 1);
        Feed.stock(x, "0:9999-0");
        Due.is("no v is left", x.days(1), 5);
    }

    private static void lawNumbers() {
        Due.is("five digits", law("v99999(99999=99999)"), 1);
        Due.is("five 0", law("v00000(00000=00000)"), 1);
        Due.is("a sixth of E", law("v999990(0=0)"), -2006);
        Due.is("a sixth in [", law("v[000000"), -2007);
        Due.is("a sixth ahead of =", law("v1(000000=0)"), -2008);
        Due.is("a sixth behind =", law("v1(0=000000)"), -2010);
        Due.is("a sixth of a second one", law("v12345+123456(0=0)"), -2012);
        Due.is("it ends with it", law("v000000"), -2006);
    }

    private static void lawLongest() {
        String longest = "x(" + "0=0&".repeat(58) + "0=000)";
        Due.is("bytes of the longest", longest.length(), 240);
        Due.is("the longest", law(longest), 1);
        Due.is("no ) at 240", law("x(" + "0=0&".repeat(58) + "0=0000"), -1240);
        Due.is("no E at 240", law("x(" + "0=0&".repeat(59) + "0="), -1240);
        Due.is("what can't stand at 239", law("x(" + "0=0&".repeat(59) + "0)"), -1239);
        Due.is("a seventh that is open at 239", law("x(((((" + "0=0&".repeat(58) + "(!"), -5239);
        Due.is("a sixth digit at 239", law("x(" + "0=0&".repeat(58) + "000000"), -2239);
        String sixteen = "v12345+12(0=0);".repeat(15) + "v12345+1(0=0);";
        Due.is("16 RULES and a ;", sixteen.length(), 239);
        Due.is("a 17th RULE at 239", law(sixteen + "x"), -4239);
        Due.is("no letter of a RULE at 239", law(sixteen + "z"), -1239);
        Due.is("the end at 239", law(sixteen), -1239);
    }

    private static void lawDepths() {
        String[] open = {"[", "(", "!"};
        Due.is("six of each kind", law("v[[[[[[1]]]]]]((((((1=1))))));x(!!!!!1=1);x([[[[[1]]]]]=[[[[[1]]]]])"), 3);
        for (String last : open) {
            Due.is("a seventh behind ( " + last, law("x((((((" + last), -5007);
            Due.is("a seventh behind ! " + last, law("x(!!!!!" + last), -5007);
            Due.is("a seventh behind both " + last, law("x(!(!(!" + last), -5007);
        }
        Due.is("a seventh [ in C", law("x([[[[[["), -5007);
        Due.is("a ! is open in its TEST: behind =", law("x(!!!!!0=["), -5009);
        Due.is("a ! ends with its TEST: behind &", law("x(!!!!!0=0&[0]=0)"), 1);
        Due.is("a ! ends with its TEST: behind |", law("x(!!!!!0=0|!!!!!0=0)"), 1);
        Due.is("a ! ends with the ( it stands ahead of", law("x(!!!!(0=0)&(((((0=0))))))"), 1);
        Due.is("a ! ahead of ( is open in it", law("x(!!!!(0=0&["), -5011);
        Due.is("a ( ends with its )", law("x((((((0=0)))))&(((((0=0))))))"), 1);
        Due.is("a [ ends with its ]", law("x([[[[[0]]]]]+[[[[[0]]]]]=0)"), 1);
        Due.is("the E of a RULE stands ahead of its (", law("v[[[[[[1]]]]]](0=0)"), 1);
        Due.is("a seventh in the E of a RULE", law("v[[[[[[[1"), -5007);
        Due.is("a RULE begins anew", law("x((((((0=0))))));x((((((0=0))))))"), 2);
        Due.is("a RULE begins anew, behind !", law("x(!!!!!0=0);x(!!!!!0=0)"), 2);
        Due.is("( in an E can't stand, however deep", law("x([[[[[("), -1007);
        Due.is("! in an E can't stand, however deep", law("x([[[[[!"), -1007);
    }

    /** What stands behind the first n bytes is not read, and is not there then. */
    private static void firstBytesAlone() {
        OnlyDifferences x = new OnlyDifferences();
        Feed.text(x, "a-b=1234567");
        Due.is("5 bytes", x.claims(5), 1);
        Due.is("by 1", x.claimIs(0, 3), 1);
        Due.is("the others are not there", x.count(5), 0);
        Feed.text(x, "a-b=1234567");
        Due.is("8 bytes", x.claims(8), 1);
        Due.is("by 1234", x.claimIs(0, 3), 1234);
        Feed.text(x, "3:57-5;4:99-98");
        Due.is("6 bytes", x.stock(6), 1);
        Due.is("LOWER", x.stallIs(3, 1), 5);
        Due.is("no second one", x.stallIs(4, 0), -1);
        Feed.text(x, "v7(0=0);y9(0=0)");
        Due.is("7 bytes", x.law(7), 1);
        Due.is("one RULE", x.count(4), 1);
        Feed.text(x, "v7(0=0);y9(0=0)");
        Due.is("8 bytes", x.law(8), -1008);
        Due.is("the tape is empty behind a FAULT", x.count(5), 0);
        Due.is("one RULE still", x.count(4), 1);
    }
}
