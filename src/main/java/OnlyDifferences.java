import java.util.Arrays;

/**
 * A market in which nothing is sold itself, only by how much one thing is more than another.
 * What each call promises stands in ../shared/DOC.md, whose words are the names used here.
 */
public final class OnlyDifferences {
    public static final int NONE = -1;

    private static final int NOT_THERE = -2;
    private static final int NOT_TOGETHER = -3;
    private static final int LINE_TOO_SHORT = -4;
    private static final int NO_CLAIM = -100000;
    private static final int UNKNOWN = -1000000;
    private static final int UNBOUNDED = 1000000;
    private static final int THINGS = 12;
    private static final int ALL_THINGS = (1 << THINGS) - 1;
    private static final int STALLS = 8;
    private static final int LONGEST_RUN = 100;
    /** Far above what any run can need: a loop whose end the document does not tell stops here. */
    private static final int FAR_ENOUGH = 1000000;

    private final Tape tape;
    private Claims claims;
    private Claims nextClaims;
    private final Bounds bounds;
    private final Bounds otherBounds;
    private final RingSearch ringSearch;
    private final LawReader lawReader;
    private Law rules;
    private Law nextRules;
    private final Market market;
    private final Market trial;
    private final Market kept;
    private boolean hasKept;
    private final Triangles triangles;
    /** One room for every call that counts by subsets or by sums: both stay below 4096. */
    private final int[] table;

    public OnlyDifferences() {
        tape = new Tape();
        claims = new Claims();
        nextClaims = new Claims();
        bounds = new Bounds();
        otherBounds = new Bounds();
        ringSearch = new RingSearch();
        lawReader = new LawReader(tape);
        rules = new Law();
        nextRules = new Law();
        market = new Market();
        trial = new Market();
        kept = new Market();
        hasKept = false;
        triangles = new Triangles();
        table = new int[ALL_THINGS + 1];
        bounds.follow(claims, NONE);
    }

    public int feed(int a, int b, int c, int d, int e) {
        if (!tape.hasRoomFor(20)) {
            return NONE;
        }
        tape.write(a);
        tape.write(b);
        tape.write(c);
        tape.write(d);
        tape.write(e);
        return tape.length;
    }

    public int law(int n) {
        if (!tape.has(n, 1, 240)) {
            return NONE;
        }
        int answer = lawReader.read(nextRules, n);
        tape.empty();
        if (answer >= 0) {
            Law before = rules;
            rules = nextRules;
            nextRules = before;
        }
        return answer;
    }

    public int claims(int n) {
        if (!tape.has(n, 1, 250)) {
            return NONE;
        }
        int answer = nextClaims.read(tape, n);
        tape.empty();
        if (answer >= 0) {
            Claims before = claims;
            claims = nextClaims;
            nextClaims = before;
            bounds.follow(claims, NONE);
        }
        return answer;
    }

    public int stock(int n) {
        if (!tape.has(n, 1, 160)) {
            return NONE;
        }
        int answer = trial.readStock(tape, n);
        tape.empty();
        if (answer >= 0) {
            market.takeStalls(trial);
        }
        return answer;
    }

    public int known(int a, int b) {
        return isThing(a) && isThing(b) ? claims.difference(a, b) : UNKNOWN;
    }

    public int groups(int what) {
        if (what == 100) {
            return claims.groupCount();
        }
        return isThing(what) ? claims.groupOf(what) : NONE;
    }

    public int bound(int a, int b) {
        if (!isThing(a) || !isThing(b) || !bounds.canHold) {
            return UNKNOWN;
        }
        return bounds.most(a, b);
    }

    public int canBe(int what) {
        if (!isFrom(what, 0, 2)) {
            return NONE;
        }
        if (what == 0) {
            return bounds.canHold ? 1 : 0;
        }
        if (bounds.canHold) {
            return NOT_THERE;
        }
        int fewest = ringSearch.fewest(bounds.direct);
        return what == 1 ? fewest : ringSearch.leastThings(bounds.direct, fewest);
    }

    public int idle(int what) {
        if (!isFrom(what, 0, 1)) {
            return NONE;
        }
        if (!bounds.canHold) {
            return NOT_TOGETHER;
        }
        int many = 0;
        int first = NOT_THERE;
        for (int i = 0; i < claims.size; i++) {
            otherBounds.follow(claims, i);
            if (bounds.isLike(otherBounds)) {
                first = many == 0 ? i : first;
                many++;
            }
        }
        return what == 0 ? many : first;
    }

    public int surely(int thing, int what) {
        if (!isThing(thing) || !isFrom(what, 0, 1)) {
            return NONE;
        }
        if (!bounds.canHold) {
            return NOT_TOGETHER;
        }
        return what == 0 ? bounds.moreThan(thing) : bounds.lessThan(thing);
    }

    public int lightest(int thing) {
        if (!isThing(thing)) {
            return NONE;
        }
        return bounds.canHold ? bounds.leastWeight(thing) : NOT_TOGETHER;
    }

    public int slack(int i) {
        if (!claims.hasNumber(i) || !bounds.canHold) {
            return UNKNOWN;
        }
        int first = claims.first[i];
        int second = claims.second[i];
        if (claims.kind[i] == Claims.JUST) {
            return 0;
        }
        if (claims.kind[i] == Claims.AT_MOST) {
            return claims.number[i] - bounds.most(first, second);
        }
        return -claims.number[i] - bounds.most(second, first);
    }

    public int chain(int what) {
        if (!isFrom(what, 0, 1)) {
            return NONE;
        }
        if (!bounds.canHold) {
            return NOT_TOGETHER;
        }
        int[] longest = table;
        bounds.chainsFrom(longest);
        int first = 0;
        for (int thing = 1; thing < THINGS; thing++) {
            if (longest[thing] > longest[first]) {
                first = thing;
            }
        }
        return what == 0 ? longest[first] : first;
    }

    public int orders(int some) {
        if (!isFrom(some, 0, ALL_THINGS)) {
            return NONE;
        }
        return bounds.canHold ? bounds.ordersOf(some, table) : NOT_TOGETHER;
    }

    public int weighings(int some, int most) {
        if (!isFrom(some, 1, ALL_THINGS) || Integer.bitCount(some) > 4 || !isFrom(most, 0, 9)) {
            return NONE;
        }
        return Bounds.waysToWeigh(bounds.direct, table, 0, some, most);
    }

    public int claimIs(int i, int what) {
        if (!claims.hasNumber(i)) {
            return NO_CLAIM;
        }
        switch (what) {
            case 0:
                return claims.first[i];
            case 1:
                return claims.second[i];
            case 2:
                return claims.kind[i];
            case 3:
                return claims.number[i];
            default:
                return NO_CLAIM;
        }
    }

    public long row(int n, int what) {
        if (!isFrom(n, 2, 12) || !isFrom(what, 0, 1) || !tape.has(2 * n, 4, 24)) {
            return Long.MIN_VALUE;
        }
        int[] numbers = tape.takeDoubles(n);
        return what == 0 ? Rows.depth(numbers, n) : Rows.goesOn(numbers, n);
    }

    public int walk(int n, int what) {
        if (!isFrom(what, 0, 3) || !tape.has(n, 1, 20)) {
            return UNKNOWN;
        }
        int[] steps = tape.take(n);
        for (int i = 0; i < n; i++) {
            steps[i] = steps[i] > 127 ? steps[i] - 256 : steps[i];
        }
        return what == 3 ? Rows.turns(steps, n) : Rows.placeOfWalk(steps, n, what);
    }

    public int round(int n, int what) {
        if (!isFrom(what, 0, 2) || !tape.has(n, 2, 8)) {
            return NONE;
        }
        long start = Rows.packed(tape.take(n), n);
        int ahead = Rows.rowsAheadOfRing(start, n);
        long inRing = Rows.after(start, n, ahead);
        if (what == 0) {
            return inRing == 0 ? ahead : NOT_THERE;
        }
        return what == 1 ? Rows.rowsInRing(inRing, n) : ahead;
    }

    public int triangle(int lines, int what) {
        if (!isFrom(lines, 1, Triangles.LINES)) {
            return NONE;
        }
        if (what == 100) {
            triangles.find(lines);
            return triangles.many;
        }
        if (!isFrom(what, 0, Triangles.LINES - 1)) {
            return NONE;
        }
        if (what >= lines) {
            return LINE_TOO_SHORT;
        }
        triangles.find(lines);
        return triangles.least[what];
    }

    public int bestRise(int n, int bargains) {
        if (!isFrom(bargains, 1, 3) || !tape.has(n, 1, 20)) {
            return NONE;
        }
        return Rows.bestRiseOf(tape.take(n), n, bargains);
    }

    public int narrowest(int n, int out) {
        if (!tape.has(n, 1, 20) || !isFrom(out, 0, n - 1)) {
            return NONE;
        }
        return Rows.narrowestOf(tape.take(n), n, n - out);
    }

    public int twos(int n, int apart) {
        if (!isFrom(apart, 0, 255) || !tape.has(n, 1, 20)) {
            return NONE;
        }
        return Rows.twosApart(tape.take(n), n, apart);
    }

    public int paired(int n, int what) {
        if (!isFrom(what, 0, 1) || !tape.has(n, 2, 16) || (n & 1) != 0) {
            return NONE;
        }
        return Rows.pairedOf(tape.take(n), n, what == 1);
    }

    public int halves(int n, int what) {
        if (!isFrom(what, 0, 1) || !tape.has(n, 2, 16)) {
            return NONE;
        }
        int[] numbers = tape.take(n);
        int whole = Rows.sum(numbers, n);
        Rows.leastBitsOfSums(numbers, n, table);
        int best = Rows.evenestSum(table, whole);
        return what == 0 ? Math.abs(whole - 2 * best) : table[best];
    }

    public int steady(int n, int what) {
        if (!isFrom(what, 0, 1) || !tape.has(n, 1, 20)) {
            return NONE;
        }
        int[] numbers = tape.take(n);
        return what == 0 ? Rows.longestSteady(numbers, n) : Rows.longestUnsteady(numbers, n);
    }

    public int comes(int n, int what) {
        if (!isFrom(what, 0, 1) || !tape.has(n, 1, 8)) {
            return NONE;
        }
        int[] numbers = tape.take(n);
        if (Rows.least(numbers, n) == 0 || Rows.hasTwoAlike(numbers, n)) {
            return NOT_TOGETHER;
        }
        int written = Rows.writtenOf(numbers, n);
        return what == 0 ? written : written & 1;
    }

    public int rests(int n, int m, int what) {
        if (!isFrom(m, 2, 60) || !isFrom(what, 0, 1) || !tape.has(n, 2, 12)) {
            return NONE;
        }
        int[] numbers = tape.take(n);
        if (Rows.greatest(numbers, n) >= m || Rows.hasTwoAlike(numbers, n)) {
            return NOT_TOGETHER;
        }
        Rows.countRests(numbers, n, m, table);
        return what == 0 ? Rows.leastRest(table, m) : Rows.mostRest(table, m);
    }

    public int days(int n) {
        if (!isFrom(n, 1, LONGEST_RUN)) {
            return NONE;
        }
        market.countAnew();
        for (int gone = 0; gone < n; gone++) {
            market.passDay(rules);
        }
        return market.sales;
    }

    public int tried(int n, int what) {
        if (!isFrom(n, 1, LONGEST_RUN) || !canBeTried(what)) {
            return NONE;
        }
        trial.takeAll(market);
        trial.countAnew();
        for (int gone = 0; gone < n; gone++) {
            trial.passDay(rules);
        }
        if (what == 0) {
            return trial.sales;
        }
        if (what == 1) {
            return trial.moneyOfAll();
        }
        if (what == 2) {
            return trial.timesSoldOut;
        }
        return what < 20 ? trial.between(what - 10) : trial.money[what - 20];
    }

    public int stallIs(int k, int what) {
        if (!market.isTold(k)) {
            return NONE;
        }
        switch (what) {
            case 0:
                return market.upper[k];
            case 1:
                return market.lower[k];
            case 2:
                return market.money[k];
            case 3:
                return market.soldOut[k];
            default:
                return NONE;
        }
    }

    public int soonest(int k, int n) {
        if (!market.isTold(k) || !isFrom(n, 1, LONGEST_RUN)) {
            return NONE;
        }
        trial.takeAll(market);
        for (int gone = 1; gone <= n; gone++) {
            if (!trial.passDay(rules)) {
                return NOT_THERE;
            }
            if (isIn(trial.soldOutToday, k)) {
                return gone;
            }
        }
        return NOT_THERE;
    }

    public int richest() {
        int best = NOT_THERE;
        for (int k = 0; k < STALLS; k++) {
            if (market.isTold(k) && (best < 0 || market.money[k] > market.money[best])) {
                best = k;
            }
        }
        return best;
    }

    public boolean seed(int x) {
        if (!isFrom(x, 0, 65535)) {
            return false;
        }
        market.x = x;
        return true;
    }

    public int keep() {
        kept.takeAll(market);
        hasKept = true;
        return market.day;
    }

    public boolean undo() {
        if (!hasKept) {
            return false;
        }
        market.takeBack(kept);
        return true;
    }

    public int check(int n) {
        if (!tape.has(n, 0, STALLS)) {
            return NOT_THERE;
        }
        int[] due = tape.take(n);
        for (int k = 0; k < n; k++) {
            int there = market.isTold(k) ? market.between(k) & 255 : 255;
            if (due[k] != there) {
                return k;
            }
        }
        return NONE;
    }

    public int count(int what) {
        switch (what) {
            case 0:
                return market.day;
            case 1:
                return market.told;
            case 2:
                return claims.size;
            case 3:
                return claims.things();
            case 4:
                return rules.size;
            case 5:
                return tape.length;
            case 6:
                return market.x;
            case 7:
                return market.moneyOfAll();
            case 8:
                return market.betweenInAll();
            default:
                return NONE;
        }
    }

    private boolean canBeTried(int what) {
        return isFrom(what, 0, 2)
                || isFrom(what, 10, 17) && market.isTold(what - 10)
                || isFrom(what, 20, 27) && market.isTold(what - 20);
    }

    private static boolean isThing(int thing) {
        return isFrom(thing, 0, THINGS - 1);
    }

    private static boolean isFrom(int number, int least, int most) {
        return number >= least && number <= most;
    }

    private static boolean isIn(int bits, int which) {
        return (bits >>> which & 1) != 0;
    }

    private static int lowestIn(int bits) {
        int lowest = 0;
        while (lowest < 31 && !isIn(bits, lowest)) {
            lowest++;
        }
        return lowest;
    }

    /** The tape, and a reader of the text on it that remembers the first FAULT alone. */
    private static final class Tape {
        private static final int MOST = 260;
        private static final int END = -1;

        private final int[] bytes = new int[MOST];
        private final int[] taken = new int[20];
        private int length = 0;
        private int end = 0;
        private int at = 0;
        private int fault = 0;
        private int faultAt = 0;

        boolean hasRoomFor(int more) {
            return length + more <= MOST;
        }

        boolean has(int n, int least, int most) {
            return isFrom(n, least, most) && n <= length;
        }

        void write(int four) {
            for (int shift = 24; shift >= 0 && length < MOST; shift -= 8) {
                bytes[length] = four >>> shift & 255;
                length++;
            }
        }

        void empty() {
            length = 0;
        }

        int[] take(int n) {
            for (int i = 0; i < n && i < taken.length; i++) {
                taken[i] = bytes[i];
            }
            empty();
            return taken;
        }

        int[] takeDoubles(int n) {
            for (int i = 0; i < n && i < taken.length; i++) {
                taken[i] = bytes[2 * i] << 8 | bytes[2 * i + 1];
            }
            empty();
            return taken;
        }

        void begin(int n) {
            end = Math.min(n, length);
            at = 0;
            fault = 0;
            faultAt = 0;
        }

        /** Behind a FAULT there is nothing more: so every reader comes to its end by itself. */
        int sign() {
            return fault != 0 || at >= end ? END : bytes[at];
        }

        boolean isOver() {
            return fault != 0 || at >= end;
        }

        boolean hasFailed() {
            return fault != 0;
        }

        void step() {
            if (fault == 0 && at < end) {
                at++;
            }
        }

        void pass(int sign) {
            if (sign() == sign) {
                step();
            } else {
                fail(1, at);
            }
        }

        void fail(int number, int place) {
            if (fault == 0) {
                fault = number;
                faultAt = place;
            }
        }

        /** Which one it is of so many signs from the first one on. */
        int oneOf(int first, int many) {
            int which = sign() - first;
            if (!isFrom(which, 0, many - 1)) {
                fail(1, at);
                return NONE;
            }
            step();
            return which;
        }

        static boolean isDigit(int sign) {
            return sign >= '0' && sign <= '9';
        }

        int number(int mostDigits) {
            int number = 0;
            if (!isDigit(sign())) {
                fail(1, at);
            }
            for (int digits = 0; digits <= mostDigits && isDigit(sign()); digits++) {
                if (digits == mostDigits) {
                    fail(2, at);
                } else {
                    number = number * 10 + sign() - '0';
                    step();
                }
            }
            return number;
        }

        int answer(int many) {
            return hasFailed() ? -1000 * fault - faultAt : many;
        }
    }

    /** CLAIMS, and what those with = tell of each THING over the one its group is reckoned from. */
    private static final class Claims {
        private static final int MOST = 40;
        private static final int JUST = 0;
        private static final int AT_MOST = 1;
        private static final int AT_LEAST = 2;

        private int size = 0;
        private final int[] first = new int[MOST];
        private final int[] second = new int[MOST];
        private final int[] kind = new int[MOST];
        private final int[] number = new int[MOST];
        private final int[] group = new int[THINGS];
        private final int[] over = new int[THINGS];

        Claims() {
            clear();
        }

        private void clear() {
            size = 0;
            for (int thing = 0; thing < THINGS; thing++) {
                group[thing] = thing;
                over[thing] = 0;
            }
        }

        int read(Tape tape, int n) {
            clear();
            tape.begin(n);
            for (int line = 0; line <= MOST; line++) {
                readLine(tape);
                if (tape.isOver()) {
                    break;
                }
                tape.pass(';');
            }
            return tape.answer(size);
        }

        private void readLine(Tape tape) {
            int start = tape.at;
            int one = tape.oneOf('a', THINGS);
            if (size >= MOST) {
                tape.fail(4, start);
            }
            tape.pass('-');
            int otherAt = tape.at;
            int other = tape.oneOf('a', THINGS);
            if (one == other) {
                tape.fail(6, otherAt);
            }
            int how = readKind(tape);
            boolean below = tape.sign() == '-';
            if (below) {
                tape.step();
            }
            int much = tape.number(4);
            if (tape.hasFailed()) {
                return;
            }
            add(one, other, how, below ? -much : much);
            if (how == JUST && !join(one, other, number[size - 1])) {
                tape.fail(8, start);
            }
        }

        private static int readKind(Tape tape) {
            int sign = tape.sign();
            if (sign != '=' && sign != '<' && sign != '>') {
                tape.fail(1, tape.at);
            }
            tape.step();
            if (sign == '=') {
                return JUST;
            }
            return sign == '<' ? AT_MOST : AT_LEAST;
        }

        private void add(int one, int other, int how, int much) {
            first[size] = one;
            second[size] = other;
            kind[size] = how;
            number[size] = much;
            size++;
        }

        private boolean join(int one, int other, int much) {
            if (group[one] == group[other]) {
                return over[one] - over[other] == much;
            }
            int joined = group[other];
            int more = over[one] - much - over[other];
            for (int thing = 0; thing < THINGS; thing++) {
                if (group[thing] == joined) {
                    group[thing] = group[one];
                    over[thing] += more;
                }
            }
            return true;
        }

        boolean hasNumber(int i) {
            return isFrom(i, 0, size - 1);
        }

        int difference(int a, int b) {
            return group[a] == group[b] ? over[a] - over[b] : UNKNOWN;
        }

        int groupOf(int member) {
            int bits = 0;
            for (int thing = 0; thing < THINGS; thing++) {
                if (group[thing] == group[member]) {
                    bits |= 1 << thing;
                }
            }
            return bits;
        }

        int groupCount() {
            int names = 0;
            for (int thing = 0; thing < THINGS; thing++) {
                names |= 1 << group[thing];
            }
            return Integer.bitCount(names);
        }

        int things() {
            int bits = 0;
            for (int i = 0; i < size; i++) {
                bits |= 1 << first[i] | 1 << second[i];
            }
            return bits;
        }
    }

    /** By how much each THING is more than each other one at most: by single CLAIMS, and by all. */
    private static final class Bounds {
        private final int[] direct = new int[THINGS * THINGS];
        private final int[] byAll = new int[THINGS * THINGS];
        private final int[] more = new int[THINGS];
        private boolean canHold = true;

        void follow(Claims claims, int without) {
            tellAll(claims, without);
            System.arraycopy(direct, 0, byAll, 0, byAll.length);
            canHold = true;
            // Stopped at once when they can't be: numbers round a RING would grow beyond 32 bits.
            for (int by = 0; by < THINGS && canHold; by++) {
                goBy(by);
                canHold = isNoneBelowItself();
            }
        }

        private void tellAll(Claims claims, int without) {
            Arrays.fill(direct, UNBOUNDED);
            for (int thing = 0; thing < THINGS; thing++) {
                direct[thing * THINGS + thing] = 0;
            }
            for (int i = 0; i < claims.size; i++) {
                if (i != without) {
                    tellBothSides(claims, i);
                }
            }
        }

        private void tellBothSides(Claims claims, int i) {
            if (claims.kind[i] != Claims.AT_LEAST) {
                tell(claims.first[i], claims.second[i], claims.number[i]);
            }
            if (claims.kind[i] != Claims.AT_MOST) {
                tell(claims.second[i], claims.first[i], -claims.number[i]);
            }
        }

        private void tell(int one, int other, int most) {
            int place = one * THINGS + other;
            direct[place] = Math.min(direct[place], most);
        }

        private void goBy(int by) {
            for (int one = 0; one < THINGS; one++) {
                int there = byAll[one * THINGS + by];
                for (int other = 0; other < THINGS && there != UNBOUNDED; other++) {
                    int on = byAll[by * THINGS + other];
                    if (on != UNBOUNDED) {
                        int place = one * THINGS + other;
                        byAll[place] = Math.min(byAll[place], there + on);
                    }
                }
            }
        }

        private boolean isNoneBelowItself() {
            for (int thing = 0; thing < THINGS; thing++) {
                if (byAll[thing * THINGS + thing] < 0) {
                    return false;
                }
            }
            return true;
        }

        int most(int one, int other) {
            return byAll[one * THINGS + other];
        }

        boolean isLike(Bounds other) {
            for (int place = 0; place < byAll.length; place++) {
                if (byAll[place] != other.byAll[place]) {
                    return false;
                }
            }
            return true;
        }

        int moreThan(int thing) {
            int bits = 0;
            for (int other = 0; other < THINGS; other++) {
                if (most(thing, other) < 0) {
                    bits |= 1 << other;
                }
            }
            return bits;
        }

        int lessThan(int thing) {
            int bits = 0;
            for (int other = 0; other < THINGS; other++) {
                if (most(other, thing) < 0) {
                    bits |= 1 << other;
                }
            }
            return bits;
        }

        int leastWeight(int thing) {
            int weight = 0;
            for (int other = 0; other < THINGS; other++) {
                weight = Math.max(weight, -most(other, thing));
            }
            return weight;
        }

        void chainsFrom(int[] longest) {
            Arrays.fill(longest, 0, THINGS, 1);
            // No CHAIN has more than all THINGS: so many rounds bring each to its longest.
            for (int round = 1; round < THINGS; round++) {
                for (int thing = 0; thing < THINGS; thing++) {
                    for (int other = 0; other < THINGS; other++) {
                        if (most(thing, other) < 0) {
                            longest[thing] = Math.max(longest[thing], longest[other] + 1);
                        }
                    }
                }
            }
        }

        int ordersOf(int some, int[] orders) {
            for (int thing = 0; thing < THINGS; thing++) {
                more[thing] = moreThan(thing);
            }
            orders[0] = 1;
            for (int placed = 1; placed <= some; placed++) {
                orders[placed] = (placed & ~some) == 0 ? ordersByLast(placed, orders) : 0;
            }
            return orders[some];
        }

        private int ordersByLast(int placed, int[] orders) {
            int many = 0;
            for (int last = 0; last < THINGS; last++) {
                if (isIn(placed, last) && (more[last] & placed) == 0) {
                    many += orders[placed & ~(1 << last)];
                }
            }
            return many;
        }

        /** In how many ways those of rest can weigh beside those that are done; it goes as deep as rest has bits. */
        private static int waysToWeigh(int[] direct, int[] weights, int done, int rest, int most) {
            if (rest == 0) {
                return 1;
            }
            int thing = lowestIn(rest);
            int bit = 1 << thing;
            int ways = 0;
            for (int weight = 0; weight <= most; weight++) {
                weights[thing] = weight;
                if (fits(direct, weights, done, thing)) {
                    ways += waysToWeigh(direct, weights, done | bit, rest & ~bit, most);
                }
            }
            return ways;
        }

        private static boolean fits(int[] direct, int[] weights, int done, int thing) {
            for (int other = 0; other < THINGS; other++) {
                if (isIn(done, other)) {
                    int more = weights[thing] - weights[other];
                    if (more > direct[thing * THINGS + other] || -more > direct[other * THINGS + thing]) {
                        return false;
                    }
                }
            }
            return true;
        }
    }

    /** Looks for A RING: of walks that come back below 0 the shortest can't meet itself on its way. */
    private static final class RingSearch {
        private final int[] here = new int[THINGS];
        private final int[] next = new int[THINGS];

        int fewest(int[] direct) {
            int fewest = THINGS + 1;
            for (int start = 0; start < THINGS; start++) {
                fewest = Math.min(fewest, stepsBack(direct, ALL_THINGS, start, THINGS));
            }
            return fewest;
        }

        int leastThings(int[] direct, int fewest) {
            for (int some = 1; some <= ALL_THINGS; some++) {
                if (Integer.bitCount(some) == fewest) {
                    int start = lowestIn(some);
                    if (stepsBack(direct, some, start, fewest) == fewest) {
                        return some;
                    }
                }
            }
            return NOT_THERE;
        }

        /** The fewest steps by which one comes back below 0; one more than the most: in none so few. */
        private int stepsBack(int[] direct, int some, int start, int most) {
            Arrays.fill(here, UNBOUNDED);
            here[start] = 0;
            for (int steps = 1; steps <= most; steps++) {
                step(direct, some);
                if (here[start] < 0) {
                    return steps;
                }
            }
            return most + 1;
        }

        private void step(int[] direct, int some) {
            Arrays.fill(next, UNBOUNDED);
            for (int from = 0; from < THINGS; from++) {
                for (int to = 0; to < THINGS && here[from] != UNBOUNDED; to++) {
                    int more = direct[from * THINGS + to];
                    if (isIn(some, to) && from != to && more != UNBOUNDED) {
                        next[to] = Math.min(next[to], here[from] + more);
                    }
                }
            }
            System.arraycopy(next, 0, here, 0, THINGS);
        }
    }

    /** THE LAW as a row of steps for a stack: a sign each, with a number beside it where it needs one. */
    private static final class Law {
        private static final int MOST = 16;
        private static final int NUMBER = '0';
        private static final int LETTER = 'a';

        private int size = 0;
        private final int[] letter = new int[MOST];
        private final int[] valueAt = new int[MOST];
        private final int[] testAt = new int[MOST];
        private final int[] endAt = new int[MOST];
        private int length = 0;
        private final int[] sign = new int[256];
        private final int[] beside = new int[256];
        private final int[] seen = new int[LawReader.LETTERS.length()];
        private final int[] stack = new int[64];
        private int height = 0;

        void clear() {
            size = 0;
            length = 0;
        }

        int add(int what, int number) {
            if (length < sign.length) {
                sign[length] = what;
                beside[length] = number;
                length++;
            }
            return length - 1;
        }

        void goOnHere(int jump) {
            if (isFrom(jump, 0, length - 1)) {
                beside[jump] = length;
            }
        }

        void addRule(int which, int value, int test) {
            if (size < MOST) {
                letter[size] = which;
                valueAt[size] = value;
                testAt[size] = test;
                endAt[size] = length;
                size++;
            }
        }

        /** In the order of LawReader.LETTERS. */
        void look(Market market, int k, int draw) {
            seen[0] = k;
            seen[1] = market.upper[k];
            seen[2] = market.lower[k];
            seen[3] = market.between(k);
            seen[4] = market.money[k] / 100;
            seen[5] = market.soldOut[k];
            seen[6] = market.othersWithMore(k);
            seen[7] = market.day % 100;
            seen[8] = draw;
        }

        boolean shuts() {
            for (int rule = 0; rule < size; rule++) {
                if (letter[rule] == 'x' && run(testAt[rule], endAt[rule]) != 0) {
                    return true;
                }
            }
            return false;
        }

        int ask(int which, int most, int none) {
            for (int rule = 0; rule < size; rule++) {
                if (letter[rule] == which && run(testAt[rule], endAt[rule]) != 0) {
                    return Math.max(0, Math.min(most, run(valueAt[rule], testAt[rule])));
                }
            }
            return none;
        }

        /** What is REFUSED is 0 for both: an E that is 0, a C that does not hold. */
        private int run(int from, int to) {
            height = 0;
            for (int at = from; at < to; at++) {
                int what = sign[at];
                int last = isPushed(what) ? 0 : pop();
                if (what == NUMBER) {
                    push(beside[at]);
                } else if (what == LETTER) {
                    push(seen[beside[at]]);
                } else if (what == '!') {
                    push(last == 0 ? 1 : 0);
                } else if (what == '&' || what == '|') {
                    if ((last != 0) == (what == '|')) {
                        push(last);
                        at = Math.max(at, beside[at] - 1);
                    }
                } else if (last == 0 && (what == '/' || what == '%')) {
                    return 0;
                } else {
                    push(reckon(what, pop(), last));
                }
            }
            return pop();
        }

        private static boolean isPushed(int what) {
            return what == NUMBER || what == LETTER;
        }

        private static int reckon(int what, int left, int right) {
            switch (what) {
                case '+':
                    return left + right;
                case '-':
                    return left - right;
                case '*':
                    return left * right;
                case '/':
                    return right == 0 ? 0 : left / right;
                case '%':
                    return right == 0 ? 0 : left % right;
                case '<':
                    return left < right ? 1 : 0;
                case '>':
                    return left > right ? 1 : 0;
                default:
                    return left == right ? 1 : 0;
            }
        }

        private void push(int number) {
            if (height < stack.length) {
                stack[height] = number;
                height++;
            }
        }

        private int pop() {
            if (height == 0) {
                return 0;
            }
            height--;
            return stack[height];
        }
    }

    /** Reads THE LAW; depth is how many of ( [ ! are open, which keeps it from going ever deeper. */
    private static final class LawReader {
        private static final int DEEPEST = 6;
        private static final int LONGEST = 240;
        private static final String LETTERS = "kulgmnotw";

        private final Tape tape;
        private Law law = null;

        LawReader(Tape tape) {
            this.tape = tape;
        }

        int read(Law into, int n) {
            law = into;
            law.clear();
            tape.begin(n);
            for (int rule = 0; rule <= Law.MOST; rule++) {
                readRule();
                if (tape.isOver()) {
                    break;
                }
                tape.pass(';');
            }
            return tape.answer(law.size);
        }

        private void readRule() {
            int letter = tape.sign();
            if (letter != 'v' && letter != 'y' && letter != 'r' && letter != 'x') {
                tape.fail(1, tape.at);
            }
            if (law.size >= Law.MOST) {
                tape.fail(4, tape.at);
            }
            tape.step();
            int value = law.length;
            if (letter != 'x') {
                readSum(0);
            }
            int test = law.length;
            tape.pass('(');
            readChoice(1);
            tape.pass(')');
            law.addRule(letter, value, test);
        }

        private void readChoice(int depth) {
            readPart(depth);
            for (int i = 0; i < LONGEST && tape.sign() == '|'; i++) {
                tape.step();
                int jump = law.add('|', 0);
                readPart(depth);
                law.goOnHere(jump);
            }
        }

        private void readPart(int depth) {
            readTest(depth);
            for (int i = 0; i < LONGEST && tape.sign() == '&'; i++) {
                tape.step();
                int jump = law.add('&', 0);
                readTest(depth);
                law.goOnHere(jump);
            }
        }

        private void readTest(int outside) {
            int depth = outside;
            for (int i = 0; i < LONGEST && tape.sign() == '!'; i++) {
                depth = open(depth);
            }
            if (tape.sign() == '(') {
                int inside = open(depth);
                if (!tape.hasFailed()) {
                    readChoice(inside);
                    tape.pass(')');
                }
            } else {
                readSum(depth);
                int sign = tape.sign();
                if (sign != '<' && sign != '>' && sign != '=') {
                    tape.fail(1, tape.at);
                }
                tape.step();
                readSum(depth);
                law.add(sign, 0);
            }
            if ((depth - outside & 1) != 0) {
                law.add('!', 0);
            }
        }

        private int open(int depth) {
            if (depth >= DEEPEST) {
                tape.fail(5, tape.at);
                return depth;
            }
            tape.step();
            return depth + 1;
        }

        private void readSum(int depth) {
            readTerm(depth);
            for (int i = 0; i < LONGEST && (tape.sign() == '+' || tape.sign() == '-'); i++) {
                int sign = tape.sign();
                tape.step();
                readTerm(depth);
                law.add(sign, 0);
            }
        }

        private void readTerm(int depth) {
            readFactor(depth);
            for (int i = 0; i < LONGEST && isOfTerm(tape.sign()); i++) {
                int sign = tape.sign();
                tape.step();
                readFactor(depth);
                law.add(sign, 0);
            }
        }

        private static boolean isOfTerm(int sign) {
            return sign == '*' || sign == '/' || sign == '%';
        }

        private void readFactor(int depth) {
            if (tape.sign() == '[') {
                int inside = open(depth);
                if (!tape.hasFailed()) {
                    readSum(inside);
                    tape.pass(']');
                }
            } else if (Tape.isDigit(tape.sign())) {
                law.add(Law.NUMBER, tape.number(5));
            } else {
                readLetter();
            }
        }

        private void readLetter() {
            for (int which = 0; which < LETTERS.length(); which++) {
                if (tape.sign() == LETTERS.charAt(which)) {
                    tape.step();
                    law.add(Law.LETTER, which);
                    return;
                }
            }
            tape.fail(1, tape.at);
        }
    }

    /** STALLS, THE DAY and X; and what the DAYS passed last brought. */
    private static final class Market {
        private static final int MOST_WEIGHT = 9999;
        private static final int LAST_DAY = 9999;

        private int told = 0;
        private final int[] upper = new int[STALLS];
        private final int[] lower = new int[STALLS];
        private final int[] money = new int[STALLS];
        private final int[] soldOut = new int[STALLS];
        private int day = 0;
        private int x = 1;
        private int sales = 0;
        private int timesSoldOut = 0;
        private int soldOutToday = 0;

        int readStock(Tape tape, int n) {
            forgetStalls();
            tape.begin(n);
            for (int line = 0; line <= STALLS; line++) {
                readStall(tape);
                if (tape.isOver()) {
                    break;
                }
                tape.pass(';');
            }
            return tape.answer(Integer.bitCount(told));
        }

        private void readStall(Tape tape) {
            int start = tape.at;
            int k = tape.oneOf('0', STALLS);
            if (isTold(k)) {
                tape.fail(6, start);
            }
            tape.pass(':');
            int most = tape.number(4);
            tape.pass('-');
            int leastAt = tape.at;
            int least = tape.number(4);
            if (least > most) {
                tape.fail(3, leastAt);
            }
            if (!tape.hasFailed()) {
                told |= 1 << k;
                upper[k] = most;
                lower[k] = least;
            }
        }

        private void forgetStalls() {
            told = 0;
            Arrays.fill(upper, 0);
            Arrays.fill(lower, 0);
            Arrays.fill(money, 0);
            Arrays.fill(soldOut, 0);
        }

        void takeStalls(Market other) {
            forgetStalls();
            addStalls(other);
        }

        void takeAll(Market other) {
            forgetStalls();
            takeBack(other);
        }

        void takeBack(Market other) {
            addStalls(other);
            day = other.day;
            x = other.x;
        }

        private void addStalls(Market other) {
            told |= other.told;
            for (int k = 0; k < STALLS; k++) {
                if (other.isTold(k)) {
                    upper[k] = other.upper[k];
                    lower[k] = other.lower[k];
                    money[k] = other.money[k];
                    soldOut[k] = other.soldOut[k];
                }
            }
        }

        boolean isTold(int k) {
            return isFrom(k, 0, STALLS - 1) && isIn(told, k);
        }

        int between(int k) {
            return upper[k] - lower[k];
        }

        int betweenInAll() {
            int all = 0;
            for (int k = 0; k < STALLS; k++) {
                all += between(k);
            }
            return all;
        }

        int moneyOfAll() {
            int all = 0;
            for (int k = 0; k < STALLS; k++) {
                all += money[k];
            }
            return all;
        }

        int othersWithMore(int k) {
            int many = 0;
            for (int other = 0; other < STALLS; other++) {
                if (between(other) > between(k)) {
                    many++;
                }
            }
            return many;
        }

        void countAnew() {
            sales = 0;
            timesSoldOut = 0;
        }

        boolean passDay(Law law) {
            if (day >= LAST_DAY) {
                return false;
            }
            soldOutToday = 0;
            for (int k = 0; k < STALLS; k++) {
                if (isTold(k)) {
                    open(k, law, draw());
                }
            }
            day++;
            return true;
        }

        private int draw() {
            x = (25173 * x + 13849) % 65536;
            return x % 10;
        }

        private void open(int k, Law law, int draw) {
            law.look(this, k, draw);
            if (law.shuts()) {
                return;
            }
            int there = between(k);
            int sold = Math.min(there, law.ask('v', 999, 5));
            int price = law.ask('y', 99, 1);
            upper[k] -= sold;
            money[k] = Math.min(999999, money[k] + sold * price);
            sales += sold;
            if (there > 0 && sold == there) {
                sellOut(k, law, draw);
            }
        }

        private void sellOut(int k, Law law, int draw) {
            soldOut[k] = Math.min(9999, soldOut[k] + 1);
            timesSoldOut++;
            soldOutToday |= 1 << k;
            law.look(this, k, draw);
            upper[k] = Math.min(MOST_WEIGHT, upper[k] + law.ask('r', 999, 0));
        }
    }

    /** What is reckoned of a few numbers alone. */
    private static final class Rows {
        static int depth(int[] row, int n) {
            int depth = 0;
            for (int left = n; left > 1 && !areAlike(row, left); left--) {
                takeDifferences(row, left);
                depth++;
            }
            return depth;
        }

        static long goesOn(int[] row, int n) {
            long next = 0;
            int left = n;
            for (; left > 1 && !areAlike(row, left); left--) {
                next += row[left - 1];
                takeDifferences(row, left);
            }
            return next + row[0];
        }

        private static boolean areAlike(int[] row, int n) {
            for (int i = 1; i < n; i++) {
                if (row[i] != row[0]) {
                    return false;
                }
            }
            return true;
        }

        private static void takeDifferences(int[] row, int n) {
            for (int i = 0; i + 1 < n; i++) {
                row[i] = row[i + 1] - row[i];
            }
        }

        static int placeOfWalk(int[] steps, int n, int what) {
            int at = 0;
            int most = 0;
            int least = 0;
            for (int i = 0; i < n; i++) {
                at += steps[i];
                most = Math.max(most, at);
                least = Math.min(least, at);
            }
            if (what == 0) {
                return at;
            }
            return what == 1 ? most : least;
        }

        static int turns(int[] steps, int n) {
            int turns = 0;
            int before = 0;
            for (int i = 0; i < n; i++) {
                if (steps[i] != 0) {
                    if (steps[i] < 0 && before > 0 || steps[i] > 0 && before < 0) {
                        turns++;
                    }
                    before = steps[i];
                }
            }
            return turns;
        }

        /** Eight bytes at most: a whole row fits into one long, and two rows are compared at once. */
        static long packed(int[] numbers, int n) {
            long row = 0;
            for (int i = 0; i < n; i++) {
                row |= (long) numbers[i] << 8 * i;
            }
            return row;
        }

        private static long nextRow(long row, int n) {
            long next = 0;
            for (int i = 0; i < n; i++) {
                int neighbour = i + 1 == n ? 0 : i + 1;
                int one = (int) (row >>> 8 * i) & 255;
                int other = (int) (row >>> 8 * neighbour) & 255;
                next |= (long) Math.abs(one - other) << 8 * i;
            }
            return next;
        }

        static long after(long start, int n, int times) {
            long row = start;
            for (int i = 0; i < times; i++) {
                row = nextRow(row, n);
            }
            return row;
        }

        static int rowsAheadOfRing(long start, int n) {
            // One goes twice as fast as the other: where they meet is as far from THE RING as the start is.
            long slow = nextRow(start, n);
            long fast = nextRow(slow, n);
            for (int i = 0; i < FAR_ENOUGH && slow != fast; i++) {
                slow = nextRow(slow, n);
                fast = nextRow(nextRow(fast, n), n);
            }
            int ahead = 0;
            for (slow = start; ahead < FAR_ENOUGH && slow != fast; ahead++) {
                slow = nextRow(slow, n);
                fast = nextRow(fast, n);
            }
            return ahead;
        }

        static int rowsInRing(long inRing, int n) {
            int many = 1;
            for (long row = nextRow(inRing, n); many < FAR_ENOUGH && row != inRing; many++) {
                row = nextRow(row, n);
            }
            return many;
        }

        static int bestRiseOf(int[] prices, int n, int bargains) {
            int[] sold = new int[bargains + 1];
            int[] holding = new int[bargains + 1];
            Arrays.fill(holding, -prices[0]);
            for (int day = 1; day < n; day++) {
                for (int i = 1; i <= bargains; i++) {
                    holding[i] = Math.max(holding[i], sold[i - 1] - prices[day]);
                    sold[i] = Math.max(sold[i], holding[i] + prices[day]);
                }
            }
            return sold[bargains];
        }

        static int narrowestOf(int[] numbers, int n, int left) {
            sort(numbers, n);
            int narrowest = numbers[n - 1] - numbers[0];
            for (int i = 0; i + left <= n; i++) {
                narrowest = Math.min(narrowest, numbers[i + left - 1] - numbers[i]);
            }
            return narrowest;
        }

        static int twosApart(int[] numbers, int n, int apart) {
            int many = 0;
            for (int i = 0; i < n; i++) {
                for (int j = 0; j < i; j++) {
                    if (Math.abs(numbers[i] - numbers[j]) == apart) {
                        many++;
                    }
                }
            }
            return many;
        }

        static int pairedOf(int[] numbers, int n, boolean byGreatest) {
            // Neighbours by size are best for both: a pair across others is never less than theirs.
            sort(numbers, n);
            int all = 0;
            int greatest = 0;
            for (int i = 0; i + 1 < n; i += 2) {
                int apart = numbers[i + 1] - numbers[i];
                all += apart;
                greatest = Math.max(greatest, apart);
            }
            return byGreatest ? greatest : all;
        }

        private static void sort(int[] numbers, int n) {
            for (int i = 1; i < n; i++) {
                int number = numbers[i];
                int place = i;
                for (; place > 0 && numbers[place - 1] > number; place--) {
                    numbers[place] = numbers[place - 1];
                }
                numbers[place] = number;
            }
        }

        /** For each sum of some without the first one the least bits by which it can be; NONE: it can't. */
        static void leastBitsOfSums(int[] numbers, int n, int[] bits) {
            Arrays.fill(bits, NONE);
            bits[0] = 0;
            // Later numbers have higher bits: what could be without them stays as it is.
            for (int i = 1; i < n; i++) {
                for (int sum = bits.length - 1; sum >= numbers[i]; sum--) {
                    int others = bits[sum - numbers[i]];
                    if (bits[sum] == NONE && others != NONE) {
                        bits[sum] = others | 1 << i;
                    }
                }
            }
        }

        static int evenestSum(int[] bits, int whole) {
            int best = 0;
            for (int sum = 1; sum < bits.length; sum++) {
                if (bits[sum] != NONE) {
                    int better = Math.abs(whole - 2 * best) - Math.abs(whole - 2 * sum);
                    if (better > 0 || better == 0 && bits[sum] < bits[best]) {
                        best = sum;
                    }
                }
            }
            return best;
        }

        static int longestSteady(int[] numbers, int n) {
            int longest = 1;
            for (int i = 0; i < n; i++) {
                for (int j = i + 1; j < n; j++) {
                    longest = Math.max(longest, steadyBy(numbers, n, i, j));
                }
            }
            return longest;
        }

        private static int steadyBy(int[] numbers, int n, int first, int second) {
            int difference = numbers[second] - numbers[first];
            int length = 2;
            int last = numbers[second];
            for (int i = second + 1; i < n; i++) {
                if (numbers[i] - last == difference) {
                    length++;
                    last = numbers[i];
                }
            }
            return length;
        }

        static int longestUnsteady(int[] numbers, int n) {
            int endsUp = 1;
            int endsDown = 1;
            for (int i = 1; i < n; i++) {
                if (numbers[i] > numbers[i - 1]) {
                    endsUp = endsDown + 1;
                } else if (numbers[i] < numbers[i - 1]) {
                    endsDown = endsUp + 1;
                }
            }
            return Math.max(endsUp, endsDown);
        }

        /** At last all that the greatest common measure goes into is there, up to the greatest number. */
        static int writtenOf(int[] numbers, int n) {
            int measure = 0;
            for (int i = 0; i < n; i++) {
                measure = commonMeasure(measure, numbers[i]);
            }
            return measure == 0 ? 0 : greatest(numbers, n) / measure - n;
        }

        private static int commonMeasure(int one, int other) {
            int a = one;
            int b = other;
            for (int i = 0; i < FAR_ENOUGH && b != 0; i++) {
                int rest = a % b;
                a = b;
                b = rest;
            }
            return a;
        }

        static void countRests(int[] numbers, int n, int m, int[] often) {
            Arrays.fill(often, 0, m, 0);
            for (int i = 0; i < n; i++) {
                for (int j = 0; j < n; j++) {
                    if (i != j) {
                        int rest = numbers[i] - numbers[j];
                        often[rest < 0 ? rest + m : rest]++;
                    }
                }
            }
        }

        static int leastRest(int[] often, int m) {
            int least = often[1];
            for (int rest = 2; rest < m; rest++) {
                least = Math.min(least, often[rest]);
            }
            return least;
        }

        static int mostRest(int[] often, int m) {
            int most = often[1];
            for (int rest = 2; rest < m; rest++) {
                most = Math.max(most, often[rest]);
            }
            return most;
        }

        static int sum(int[] numbers, int n) {
            int sum = 0;
            for (int i = 0; i < n; i++) {
                sum += numbers[i];
            }
            return sum;
        }

        static int least(int[] numbers, int n) {
            int least = numbers[0];
            for (int i = 1; i < n; i++) {
                least = Math.min(least, numbers[i]);
            }
            return least;
        }

        static int greatest(int[] numbers, int n) {
            int greatest = numbers[0];
            for (int i = 1; i < n; i++) {
                greatest = Math.max(greatest, numbers[i]);
            }
            return greatest;
        }

        static boolean hasTwoAlike(int[] numbers, int n) {
            return twosApart(numbers, n, 0) > 0;
        }
    }

    /** TRIANGLES, grown number by number of the first line: each brings one more to every line below. */
    private static final class Triangles {
        private static final int LINES = 4;

        private int lines = 0;
        private int many = 0;
        private final int[] least = new int[LINES];
        private final int[] edges = new int[LINES * LINES];

        void find(int howManyLines) {
            lines = howManyLines;
            many = 0;
            grow(this, 0, 0);
        }

        /** It goes as deep as there are lines. */
        private static void grow(Triangles all, int at, int used) {
            int greatest = all.lines * (all.lines + 1) / 2;
            for (int number = 1; number <= greatest; number++) {
                int usedNow = all.put(at, number, used);
                if (usedNow != NONE && at + 1 == all.lines) {
                    all.countThis();
                } else if (usedNow != NONE) {
                    grow(all, at + 1, usedNow);
                }
            }
        }

        private int put(int at, int number, int used) {
            int usedNow = used;
            int edge = number;
            for (int line = 0; line <= at; line++) {
                if (line > 0) {
                    edge = Math.abs(edge - edges[(at - 1) * LINES + line - 1]);
                }
                if (edge == 0 || isIn(usedNow, edge)) {
                    return NONE;
                }
                usedNow |= 1 << edge;
                edges[at * LINES + line] = edge;
            }
            return usedNow;
        }

        /** They are found by their rows from the left: the first one is the least. */
        private void countThis() {
            for (int i = 0; i < lines && many == 0; i++) {
                least[i] = edges[i * LINES];
            }
            many++;
        }
    }
}
