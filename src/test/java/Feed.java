/** Feeds texts and numbers to a tape that is empty: twenty bytes a call, what is left over is 0. */
final class Feed {
    private Feed() {
    }

    static void bytes(OnlyDifferences x, int... bytes) {
        for (int from = 0; from < bytes.length; from += 20) {
            x.feed(four(bytes, from), four(bytes, from + 4), four(bytes, from + 8),
                    four(bytes, from + 12), four(bytes, from + 16));
        }
    }

    private static int four(int[] bytes, int from) {
        int four = 0;
        for (int i = from; i < from + 4; i++) {
            four = four << 8 | (i < bytes.length ? bytes[i] & 255 : 0);
        }
        return four;
    }

    static void text(OnlyDifferences x, String text) {
        int[] bytes = new int[text.length()];
        for (int i = 0; i < bytes.length; i++) {
            bytes[i] = text.charAt(i);
        }
        bytes(x, bytes);
    }

    static int claims(OnlyDifferences x, String text) {
        text(x, text);
        return x.claims(text.length());
    }

    static int stock(OnlyDifferences x, String text) {
        text(x, text);
        return x.stock(text.length());
    }

    static int law(OnlyDifferences x, String text) {
        text(x, text);
        return x.law(text.length());
    }

    /** Empties the tape, which nothing but a call that takes from it does. */
    static void empty(OnlyDifferences x) {
        x.check(0);
    }
}
