import java.util.Random;

/** Drawn CLAIMS, with what follows from them reckoned in the plainest way there is. */
public final class PlainClaimsTest {
    private static final int THINGS = 12;
    private static final long FAR = Long.MAX_VALUE / 4;

    private static Random random = new Random(20261118);
    private static int many;
    private static int[] first = new int[40];
    private static int[] second = new int[40];
    private static int[] kind = new int[40];
    private static int[] number = new int[40];
    private static OnlyDifferences x;

    private static int edges;
    private static int[] from = new int[80];
    private static int[] to = new int[80];
    private static int[] most = new int[80];

    private static int bestSteps;
    private static int bestThings;

    public static void main(String[] args) {
        for (int round = 0; round < 3000; round++) {
            draw();
            String text = text();
            x = new OnlyDifferences();
            int at = faultOf();
            if (at >= 0) {
                Due.is(text, Feed.claims(x, text), -8000 - at);
                continue;
            }
            Due.is(text, Feed.claims(x, text), many);
            compare(text);
        }
        Due.end();
    }

    private static void draw() {
        int things = 2 + random.nextInt(round(11));
        int spread = random.nextInt(3) == 0 ? 9999 : random.nextInt(2) == 0 ? 3 : 12;
        int kinds = random.nextInt(4);
        many = 1 + random.nextInt(random.nextBoolean() ? 6 : 24);
        int[] weight = new int[THINGS];
        for (int i = 0; i < THINGS; i++) {
            weight[i] = random.nextInt(spread + 1) / 2;
        }
        boolean sound = random.nextInt(3) > 0;
        for (int i = 0; i < many; i++) {
            first[i] = random.nextInt(things);
            do {
                second[i] = random.nextInt(things);
            } while (second[i] == first[i]);
            kind[i] = kinds == 0 ? random.nextInt(3) : kinds == 1 ? 1 + random.nextInt(2) : random.nextInt(9) == 0 ? 0 : 1;
            number[i] = random.nextInt(2 * spread + 1) - spread;
            if (sound) {
                int real = weight[first[i]] - weight[second[i]];
                int loose = random.nextInt(1 + spread / 4);
                number[i] = kind[i] == 0 ? real : kind[i] == 1 ? real + loose : real - loose;
            }
        }
        if (random.nextInt(20) == 0) {
            number[many - 1] += random.nextInt(3) - 1;
        }
        for (int i = 0; i < many; i++) {
            number[i] = Math.max(-9999, Math.min(9999, number[i]));
        }
        while (text().length() > 250) {
            many--;
        }
    }

    private static int round(int bound) {
        return Math.max(1, bound);
    }

    private static String line(int i) {
        return "" + (char) ('a' + first[i]) + '-' + (char) ('a' + second[i]) + "=<>".charAt(kind[i]) + number[i];
    }

    private static String text() {
        StringBuilder text = new StringBuilder();
        for (int i = 0; i < many; i++) {
            text.append(i == 0 ? "" : ";").append(line(i));
        }
        return text.toString();
    }

    /** Where the first one with = stands that can't be with those ahead; -1: none. */
    private static int faultOf() {
        int at = 0;
        for (int i = 0; i < many; i++) {
            if (kind[i] == 0) {
                long told = knownBy(i, first[i], second[i]);
                if (told != FAR && told != number[i]) {
                    return at;
                }
            }
            at += line(i).length() + 1;
        }
        return -1;
    }

    /** By walking from one to the other along the first so many with =. */
    private static long knownBy(int upTo, int one, int other) {
        long[] under = new long[THINGS];
        java.util.Arrays.fill(under, FAR);
        under[one] = 0;
        for (int again = 0; again < THINGS; again++) {
            for (int i = 0; i < upTo; i++) {
                if (kind[i] == 0 && under[first[i]] != FAR) {
                    under[second[i]] = under[first[i]] + number[i];
                }
                if (kind[i] == 0 && under[second[i]] != FAR) {
                    under[first[i]] = under[second[i]] - number[i];
                }
            }
        }
        return under[other];
    }

    private static void tell(int without) {
        edges = 0;
        for (int i = 0; i < many; i++) {
            if (i != without && kind[i] != 2) {
                edge(first[i], second[i], number[i]);
            }
            if (i != without && kind[i] != 1) {
                edge(second[i], first[i], -number[i]);
            }
        }
    }

    private static void edge(int one, int other, int much) {
        from[edges] = one;
        to[edges] = other;
        most[edges] = much;
        edges++;
    }

    /** From one on, again and again, till nothing changes; null: it goes on for ever. */
    private static long[] boundsFrom(int one) {
        long[] bound = new long[THINGS];
        java.util.Arrays.fill(bound, FAR);
        bound[one] = 0;
        for (int again = 0; again <= THINGS; again++) {
            boolean changed = false;
            for (int i = 0; i < edges; i++) {
                if (bound[from[i]] != FAR && bound[from[i]] + most[i] < bound[to[i]]) {
                    bound[to[i]] = bound[from[i]] + most[i];
                    changed = true;
                }
            }
            if (!changed) {
                return bound;
            }
        }
        return null;
    }

    private static long[][] allBounds(int without) {
        tell(without);
        long[][] all = new long[THINGS][];
        for (int one = 0; one < THINGS; one++) {
            all[one] = boundsFrom(one);
            if (all[one] == null) {
                return null;
            }
        }
        return all;
    }

    private static void compare(String text) {
        for (int a = 0; a < THINGS; a++) {
            int group = 0;
            for (int b = 0; b < THINGS; b++) {
                long known = knownBy(many, a, b);
                Due.is("known " + text, x.known(a, b), known == FAR ? -1000000 : known);
                group |= known == FAR ? 0 : 1 << b;
            }
            Due.is("groups " + text, x.groups(a), group);
        }
        long[][] bounds = allBounds(-1);
        Due.is("canBe " + text, x.canBe(0), bounds == null ? 0 : 1);
        if (bounds == null) {
            compareRing(text);
        } else {
            compareBounds(text, bounds);
            compareIdle(text, bounds);
            compareOrders(text, bounds);
        }
        compareWeighings(text);
    }

    private static void compareRing(String text) {
        bestSteps = THINGS + 1;
        bestThings = 0;
        tell(-1);
        for (int start = 0; start < THINGS; start++) {
            goRound(start, start, 1 << start, 0, 0);
        }
        Due.is("fewest " + text, x.canBe(1), bestSteps);
        Due.is("THINGS of " + text, x.canBe(2), bestThings);
        Due.is("bound " + text, x.bound(0, 1), -1000000);
    }

    private static void goRound(int start, int at, int been, long sum, int steps) {
        if (steps >= bestSteps) {
            return;
        }
        for (int i = 0; i < edges; i++) {
            if (from[i] == at && to[i] == start && sum + most[i] < 0) {
                if (steps + 1 < bestSteps || steps + 1 == bestSteps && been < bestThings) {
                    bestSteps = steps + 1;
                    bestThings = been;
                }
            } else if (from[i] == at && (been >> to[i] & 1) == 0) {
                goRound(start, to[i], been | 1 << to[i], sum + most[i], steps + 1);
            }
        }
    }

    private static void compareBounds(String text, long[][] bounds) {
        for (int a = 0; a < THINGS; a++) {
            int more = 0;
            int less = 0;
            for (int b = 0; b < THINGS; b++) {
                Due.is("bound " + text, x.bound(a, b), bounds[a][b] == FAR ? 1000000 : bounds[a][b]);
                more |= bounds[a][b] < 0 ? 1 << b : 0;
                less |= bounds[b][a] < 0 ? 1 << b : 0;
            }
            Due.is("surely more " + text, x.surely(a, 0), more);
            Due.is("surely less " + text, x.surely(a, 1), less);
        }
        long[] weight = new long[THINGS];
        for (int again = 0; again <= THINGS; again++) {
            for (int i = 0; i < edges; i++) {
                weight[to[i]] = Math.max(weight[to[i]], weight[from[i]] - most[i]);
            }
        }
        for (int a = 0; a < THINGS; a++) {
            Due.is("lightest " + text, x.lightest(a), weight[a]);
        }
        for (int i = 0; i < many; i++) {
            long slack = kind[i] == 0 ? 0 : kind[i] == 1 ? number[i] - bounds[first[i]][second[i]]
                    : -number[i] - bounds[second[i]][first[i]];
            Due.is("slack " + text, x.slack(i), slack);
        }
        int longest = 0;
        int lowest = 0;
        for (int a = 0; a < THINGS; a++) {
            int chain = chainFrom(bounds, a);
            if (chain > longest) {
                longest = chain;
                lowest = a;
            }
        }
        Due.is("chain " + text, x.chain(0), longest);
        Due.is("first of chain " + text, x.chain(1), lowest);
    }

    private static int chainFrom(long[][] bounds, int a) {
        int longest = 0;
        for (int b = 0; b < THINGS; b++) {
            longest = bounds[a][b] < 0 ? Math.max(longest, chainFrom(bounds, b)) : longest;
        }
        return longest + 1;
    }

    private static void compareIdle(String text, long[][] bounds) {
        int idle = 0;
        int lowest = -2;
        for (int i = many - 1; i >= 0; i--) {
            if (java.util.Arrays.deepEquals(bounds, allBounds(i))) {
                idle++;
                lowest = i;
            }
        }
        Due.is("idle " + text, x.idle(0), idle);
        Due.is("first idle " + text, x.idle(1), lowest);
        tell(-1);
    }

    private static void compareOrders(String text, long[][] bounds) {
        int some = 0;
        for (int i = random.nextInt(7); i > 0; i--) {
            some |= 1 << random.nextInt(THINGS);
        }
        Due.is("orders " + text, x.orders(some), ordersOf(bounds, some));
    }

    private static int ordersOf(long[][] bounds, int left) {
        if (left == 0) {
            return 1;
        }
        int orders = 0;
        for (int next = 0; next < THINGS; next++) {
            boolean may = (left >> next & 1) != 0;
            for (int other = 0; other < THINGS; other++) {
                may &= (left >> other & 1) == 0 || bounds[other][next] >= 0;
            }
            orders += may ? ordersOf(bounds, left & ~(1 << next)) : 0;
        }
        return orders;
    }

    private static void compareWeighings(String text) {
        int[] things = new int[4];
        int some = 0;
        int size = 1 + random.nextInt(4);
        for (int i = 0; i < size; i++) {
            do {
                things[i] = random.nextInt(THINGS);
            } while ((some >> things[i] & 1) != 0);
            some |= 1 << things[i];
        }
        int limit = random.nextInt(10);
        int all = 1;
        for (int i = 0; i < size; i++) {
            all *= limit + 1;
        }
        int ways = 0;
        int[] weight = new int[THINGS];
        for (int code = 0; code < all; code++) {
            int rest = code;
            for (int i = 0; i < size; i++) {
                weight[things[i]] = rest % (limit + 1);
                rest /= limit + 1;
            }
            ways += allHold(some, weight) ? 1 : 0;
        }
        Due.is("weighings " + some + " to " + limit + " " + text, x.weighings(some, limit), ways);
    }

    private static boolean allHold(int some, int[] weight) {
        for (int i = 0; i < many; i++) {
            int more = weight[first[i]] - weight[second[i]];
            boolean asked = (some >> first[i] & 1) != 0 && (some >> second[i] & 1) != 0;
            if (asked && (kind[i] == 0 && more != number[i] || kind[i] == 1 && more > number[i]
                    || kind[i] == 2 && more < number[i])) {
                return false;
            }
        }
        return true;
    }
}
