import java.util.Random;

/** Drawn STOCKS and LAWS, read sign by sign and reckoned straight from their texts. */
public final class PlainMarketTest {
    private static Random random = new Random(99);
    private static OnlyDifferences x;

    private static boolean[] told;
    private static int[] upper;
    private static int[] lower;
    private static int[] money;
    private static int[] soldOut;
    private static int day;
    private static int seed;
    private static int draw;
    private static int sales;
    private static int events;
    private static int[] firstEvent;
    private static String[] rules;

    private static String text;
    private static int at;
    private static int stall;

    public static void main(String[] args) {
        for (int round = 0; round < 1500; round++) {
            market();
        }
        for (int round = 0; round < 60000; round++) {
            lawText();
            stockText();
        }
        Due.end();
    }

    // Laws, drawn.

    private static String any(String... ones) {
        return ones[random.nextInt(ones.length)];
    }

    private static String factor(int open) {
        if (open < 6 && random.nextInt(6) == 0) {
            return "[" + sum(open + 1) + "]";
        }
        return random.nextInt(3) == 0 ? "" + random.nextInt(random.nextInt(4) == 0 ? 99999 : 12)
                : any("k", "u", "l", "g", "m", "n", "o", "t", "w");
    }

    private static String term(int open) {
        return random.nextInt(3) == 0 ? factor(open) + any("*", "/", "%") + term(open) : factor(open);
    }

    private static String sum(int open) {
        return random.nextInt(3) == 0 ? term(open) + any("+", "-") + sum(open) : term(open);
    }

    private static String test(int open) {
        if (open < 6 && random.nextInt(5) == 0) {
            return "!" + test(open + 1);
        }
        if (open < 6 && random.nextInt(6) == 0) {
            return "(" + choice(open + 1) + ")";
        }
        return sum(open) + any("<", ">", "=") + sum(open);
    }

    private static String part(int open) {
        return random.nextInt(4) == 0 ? test(open) + "&" + part(open) : test(open);
    }

    private static String choice(int open) {
        return random.nextInt(4) == 0 ? part(open) + "|" + choice(open) : part(open);
    }

    private static String rule() {
        String letter = any("v", "v", "y", "r", "r", "x");
        return letter + (letter.equals("x") ? "" : sum(0)) + "(" + choice(1) + ")";
    }

    private static String law(int most) {
        String law = rule();
        for (int i = random.nextInt(most); i > 0; i--) {
            String more = law + ";" + rule();
            law = more.length() <= 240 ? more : law;
        }
        return law.length() <= 240 ? law : law(most);
    }

    private static String stock() {
        StringBuilder stock = new StringBuilder();
        int order = random.nextInt(256) | 1;
        for (int k = 7; k >= 0; k--) {
            if ((order >> k & 1) != 0) {
                int most = random.nextInt(random.nextInt(4) == 0 ? 10000 : 40);
                stock.append(stock.length() == 0 ? "" : ";").append(k).append(':').append(most).append('-')
                        .append(random.nextInt(most + 1));
            }
        }
        return stock.toString();
    }

    // The market, plainly.

    private static void market() {
        x = new OnlyDifferences();
        told = new boolean[8];
        upper = new int[8];
        lower = new int[8];
        money = new int[8];
        soldOut = new int[8];
        day = 0;
        seed = 1;
        String stock = stock();
        Due.is(stock, Feed.stock(x, stock), stock.split(";").length);
        for (String line : stock.split(";")) {
            int k = line.charAt(0) - '0';
            told[k] = true;
            upper[k] = Integer.parseInt(line.substring(2, line.indexOf('-')));
            lower[k] = Integer.parseInt(line.substring(line.indexOf('-') + 1));
        }
        for (int again = 0; again < 4; again++) {
            String law = law(9);
            rules = law.split(";");
            Due.is(law, Feed.law(x, law), rules.length);
            if (random.nextInt(3) == 0) {
                seed = random.nextInt(65536);
                x.seed(seed);
            }
            pass(law + " on " + stock);
        }
    }

    private static void pass(String what) {
        int n = 1 + random.nextInt(random.nextInt(8) == 0 ? 100 : 12);
        int[] tried = new int[23];
        for (int i = 0; i < 23; i++) {
            tried[i] = x.tried(n, i < 3 ? i : i < 11 ? 7 + i : 9 + i);
        }
        int[] soonest = new int[8];
        for (int k = 0; k < 8; k++) {
            soonest[k] = x.soonest(k, n);
        }
        sales = 0;
        events = 0;
        firstEvent = new int[8];
        for (int i = 1; i <= n; i++) {
            day(i);
        }
        Due.is("SALES of " + n + " by " + what, x.days(n), sales);
        int all = 0;
        int apart = 0;
        int richest = -2;
        for (int k = 0; k < 8; k++) {
            int[] want = {upper[k], lower[k], money[k], soldOut[k]};
            for (int i = 0; i < 4; i++) {
                Due.is("stallIs " + k + " " + i + " by " + what, x.stallIs(k, i), told[k] ? want[i] : -1);
            }
            all += money[k];
            apart += upper[k] - lower[k];
            richest = told[k] && (richest < 0 || money[k] > money[richest]) ? k : richest;
            Due.is("tried between", tried[3 + k], told[k] ? upper[k] - lower[k] : -1);
            Due.is("soonest", soonest[k], !told[k] ? -1 : firstEvent[k] == 0 ? -2 : firstEvent[k]);
        }
        for (int k = 0; k < 8; k++) {
            Due.is("tried MONEY", x.tried(1, 20 + k) >= 0, told[k]);
        }
        Due.is("tried SALES", tried[0], sales);
        Due.is("tried MONEY of all", tried[1], all);
        Due.is("tried SOLD OUT", tried[2], events);
        Due.is("THE DAY", x.count(0), day);
        Due.is("X", x.count(6), seed);
        Due.is("MONEY of all", x.count(7), all);
        Due.is("between in all", x.count(8), apart);
        Due.is("richest", x.richest(), richest);
    }

    private static void day(int number) {
        for (int k = 0; k < 8; k++) {
            if (told[k]) {
                seed = (int) ((25173L * seed + 13849) % 65536);
                draw = seed % 10;
                stall = k;
                open(k, number);
            }
        }
        day++;
    }

    private static void open(int k, int number) {
        for (String rule : rules) {
            if (rule.charAt(0) == 'x' && holds(rule, 1)) {
                return;
            }
        }
        int most = ask('v', 999, 5);
        int price = ask('y', 99, 1);
        int there = upper[k] - lower[k];
        int sold = most < there ? most : there;
        upper[k] -= sold;
        sales += sold;
        money[k] += sold * price;
        money[k] = money[k] > 999999 ? 999999 : money[k];
        if (there != 0 && upper[k] == lower[k]) {
            soldOut[k]++;
            events++;
            firstEvent[k] = firstEvent[k] == 0 ? number : firstEvent[k];
            upper[k] += ask('r', 999, 0);
            upper[k] = upper[k] > 9999 ? 9999 : upper[k];
        }
    }

    private static int ask(char letter, int most, int none) {
        for (String rule : rules) {
            if (rule.charAt(0) == letter && holds(rule, endOfValue(rule))) {
                int value;
                try {
                    text = rule;
                    at = 1;
                    value = sumOf();
                } catch (ArithmeticException refused) {
                    value = 0;
                }
                return value < 0 ? 0 : value > most ? most : value;
            }
        }
        return none;
    }

    private static int endOfValue(String rule) {
        return rule.indexOf('(');
    }

    private static boolean holds(String rule, int from) {
        text = rule;
        at = from + 1;
        try {
            return choiceOf(true);
        } catch (ArithmeticException refused) {
            return false;
        }
    }

    private static boolean goesOn(char sign) {
        if (text.charAt(at) == sign) {
            at++;
            return true;
        }
        return false;
    }

    /** What does not matter any more is read, not asked. */
    private static boolean choiceOf(boolean matters) {
        boolean holds = partOf(matters);
        while (goesOn('|')) {
            holds |= partOf(matters && !holds);
        }
        return holds;
    }

    private static boolean partOf(boolean matters) {
        boolean holds = testOf(matters);
        while (goesOn('&')) {
            holds &= testOf(matters && holds);
        }
        return holds;
    }

    private static boolean testOf(boolean matters) {
        if (goesOn('!')) {
            return !testOf(matters);
        }
        if (goesOn('(')) {
            boolean holds = choiceOf(matters);
            at++;
            return holds;
        }
        if (!matters) {
            while ("&|)".indexOf(text.charAt(at)) < 0) {
                at++;
            }
            return false;
        }
        int left = sumOf();
        char sign = text.charAt(at++);
        int right = sumOf();
        return sign == '<' ? left < right : sign == '>' ? left > right : left == right;
    }

    private static int sumOf() {
        int sum = termOf();
        while (true) {
            if (goesOn('+')) {
                sum += termOf();
            } else if (goesOn('-')) {
                sum -= termOf();
            } else {
                return sum;
            }
        }
    }

    private static int termOf() {
        int term = factorOf();
        while (true) {
            if (goesOn('*')) {
                term *= factorOf();
            } else if (goesOn('/')) {
                term /= factorOf();
            } else if (goesOn('%')) {
                term %= factorOf();
            } else {
                return term;
            }
        }
    }

    private static int factorOf() {
        if (goesOn('[')) {
            int sum = sumOf();
            at++;
            return sum;
        }
        int number = 0;
        int start = at;
        while (Character.isDigit(text.charAt(at))) {
            number = number * 10 + text.charAt(at++) - '0';
        }
        return at > start ? number : letterOf(text.charAt(at++));
    }

    private static int letterOf(char letter) {
        int more = 0;
        for (int k = 0; k < 8; k++) {
            more += told[k] && k != stall && upper[k] - lower[k] > upper[stall] - lower[stall] ? 1 : 0;
        }
        switch (letter) {
            case 'k':
                return stall;
            case 'u':
                return upper[stall];
            case 'l':
                return lower[stall];
            case 'g':
                return upper[stall] - lower[stall];
            case 'm':
                return money[stall] / 100;
            case 'n':
                return soldOut[stall];
            case 'o':
                return more;
            case 't':
                return day % 100;
            default:
                return draw;
        }
    }

    // FAULTS, by one step a sign: what is open stands in a row of signs.

    private static void lawText() {
        String law = spoiled(law(random.nextInt(30) == 0 ? 17 : 4), "vyrx()[]!&|<>=+-*/%;kulgmnotw0123456789z");
        if (random.nextInt(200) == 0) {
            law = "x(0=0);".repeat(16) + any("v", "x", "z", "1", "") + law.substring(0, Math.min(40, law.length()));
        }
        law = law.substring(0, Math.min(240, law.length()));
        x = new OnlyDifferences();
        int want = lawFault(law);
        Due.is(law, Feed.law(x, law), want);
        Due.is("RULES of " + law, x.count(4), Math.max(0, want));
    }

    private static String spoiled(String text, String signs) {
        StringBuilder now = new StringBuilder(text);
        for (int i = random.nextInt(3); i > 0 && now.length() > 1; i--) {
            int place = random.nextInt(now.length());
            char sign = signs.charAt(random.nextInt(signs.length()));
            switch (random.nextInt(4)) {
                case 0:
                    now.setCharAt(place, sign);
                    break;
                case 1:
                    now.insert(place, sign);
                    break;
                case 2:
                    now.deleteCharAt(place);
                    break;
                default:
                    now.insert(place, ("" + sign).repeat(1 + random.nextInt(6)));
            }
        }
        return now.toString();
    }

    /** States: R a rule's letter, O its (, T a test, F a factor, N in a number, A behind a factor, B behind a test, E its end. */
    private static int lawFault(String law) {
        StringBuilder open = new StringBuilder();
        char state = 'R';
        boolean inValue = false;
        boolean compared = false;
        int digits = 0;
        int many = 0;
        for (int place = 0; place < law.length(); place++) {
            char sign = law.charAt(place);
            boolean opens = sign == '(' || sign == '[' || sign == '!';
            int wrong = -1000 - place;
            if (state == 'N' && Character.isDigit(sign)) {
                digits++;
                if (digits > 5) {
                    return -2000 - place;
                }
                continue;
            }
            state = state == 'N' ? 'A' : state;
            if (state == 'R') {
                if ("vyrx".indexOf(sign) < 0) {
                    return wrong;
                }
                if (many == 16) {
                    return -4000 - place;
                }
                many++;
                inValue = sign != 'x';
                state = inValue ? 'F' : 'O';
            } else if (state == 'O') {
                if (sign != '(') {
                    return wrong;
                }
                open.append('(');
                inValue = false;
                compared = false;
                state = 'T';
            } else if (state == 'T' && (sign == '(' || sign == '!')) {
                if (open.length() == 6) {
                    return -5000 - place;
                }
                open.append(sign);
                compared = false;
            } else if (state == 'T' || state == 'F') {
                if (sign == '[' && opens) {
                    if (open.length() == 6) {
                        return -5000 - place;
                    }
                    open.append('[');
                    state = 'F';
                } else if (Character.isDigit(sign)) {
                    digits = 1;
                    state = 'N';
                } else if ("kulgmnotw".indexOf(sign) >= 0) {
                    state = 'A';
                } else {
                    return wrong;
                }
            } else if (state == 'E') {
                if (sign != ';') {
                    return wrong;
                }
                state = 'R';
            } else {
                boolean inBracket = open.length() > 0 && open.charAt(open.length() - 1) == '[';
                if (state == 'A' && "+-*/%".indexOf(sign) >= 0) {
                    state = 'F';
                    continue;
                }
                if (state == 'A' && inBracket) {
                    if (sign != ']') {
                        return wrong;
                    }
                    open.setLength(open.length() - 1);
                    continue;
                }
                if (state == 'A' && inValue) {
                    if (sign != '(') {
                        return wrong;
                    }
                    open.append('(');
                    inValue = false;
                    compared = false;
                    state = 'T';
                    continue;
                }
                if (state == 'A' && !compared) {
                    if ("<>=".indexOf(sign) < 0) {
                        return wrong;
                    }
                    compared = true;
                    state = 'F';
                    continue;
                }
                if ("&|)".indexOf(sign) < 0) {
                    return wrong;
                }
                while (open.charAt(open.length() - 1) == '!') {
                    open.setLength(open.length() - 1);
                }
                if (sign == ')') {
                    open.setLength(open.length() - 1);
                    state = open.length() == 0 ? 'E' : 'B';
                } else {
                    compared = false;
                    state = 'T';
                }
            }
        }
        return state == 'E' ? many : -1000 - law.length();
    }

    private static void stockText() {
        String stock = spoiled(stock(), "0123456789:;-8a");
        stock = stock.substring(0, Math.min(160, stock.length()));
        x = new OnlyDifferences();
        int want = stockFault(stock);
        Due.is(stock, Feed.stock(x, stock), want);
        Due.is("STALLS of " + stock, Integer.bitCount(x.count(1)), Math.max(0, want));
    }

    private static int stockFault(String stock) {
        int place = 0;
        int seen = 0;
        for (String line : stock.split(";", -1)) {
            String form = line.replaceAll("[0-9]", "9");
            boolean stallThere = !line.isEmpty() && line.charAt(0) >= '0' && line.charAt(0) <= '7';
            if (stallThere && (seen >> line.charAt(0) - '0' & 1) != 0) {
                return -6000 - place;
            }
            if (!stallThere) {
                return -1000 - place;
            }
            seen |= 1 << line.charAt(0) - '0';
            java.util.regex.Matcher whole = java.util.regex.Pattern.compile("(.:)(9{1,4})-(9{1,4})").matcher(form);
            boolean begins = whole.lookingAt();
            if (begins && form.startsWith("9", whole.end()) && whole.end(3) - whole.start(3) == 4) {
                return -2000 - place - whole.end();
            }
            if (begins && Integer.parseInt(line.substring(whole.start(3), whole.end(3)))
                    > Integer.parseInt(line.substring(whole.start(2), whole.end(2)))) {
                return -3000 - place - whole.start(3);
            }
            if (!whole.matches()) {
                return badLine(form, place);
            }
            place += line.length() + 1;
        }
        return Integer.bitCount(seen);
    }

    private static int badLine(String form, int place) {
        if (java.util.regex.Pattern.compile(".:9{5}").matcher(form).lookingAt()) {
            return -2000 - place - 6;
        }
        // The longest front that could still become a line.
        for (int good = form.length(); good > 0; good--) {
            if (form.substring(0, good).matches(".|.:|.:9{1,4}|.:9{1,4}-|.:9{1,4}-9{1,4}")) {
                return -1000 - place - good;
            }
        }
        return -1000 - place;
    }
}
