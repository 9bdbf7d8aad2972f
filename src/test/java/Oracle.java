import java.util.Arrays;

/**
 * The least cost found by two ways that share nothing with the program's own:
 * words tries every choice of words as the document defines the codes, for
 * small N and LIMIT; levels walks the tree of codes depth by depth, for all.
 */
final class Oracle {
    static final long NO_ROOM = -1L;

    private static final long NONE = Long.MAX_VALUE;

    private Oracle() {
    }

    /** Tries the word of no bits too: that it begins every other must rule it out. */
    static long words(int[] weights, int n, int limit) {
        String[] all = new String[(2 << limit) - 1];
        int count = 0;
        for (int length = 0; length <= limit; length++) {
            for (int bits = 0; bits < 1 << length; bits++) {
                all[count++] = word(bits, length);
            }
        }
        long best = chooseWord(weights, new String[n], 0, all);
        return best == NONE ? NO_ROOM : best;
    }

    private static String word(int bits, int length) {
        StringBuilder text = new StringBuilder();
        for (int i = length - 1; i >= 0; i--) {
            text.append((bits >> i & 1) == 0 ? '0' : '1');
        }
        return text.toString();
    }

    private static long chooseWord(int[] weights, String[] chosen, int letter, String[] all) {
        if (letter == chosen.length) {
            return 0;
        }
        long best = NONE;
        for (String word : all) {
            if (clashes(word, chosen, letter)) {
                continue;
            }
            chosen[letter] = word;
            long rest = chooseWord(weights, chosen, letter + 1, all);
            if (rest != NONE) {
                best = Math.min(best, rest + (long) weights[letter] * word.length());
            }
        }
        return best;
    }

    private static boolean clashes(String word, String[] chosen, int count) {
        for (int i = 0; i < count; i++) {
            if (word.startsWith(chosen[i]) || chosen[i].startsWith(word)) {
                return true;
            }
        }
        return false;
    }

    static long levels(int[] weights, int n, int limit) {
        int[] heaviestLast = Arrays.copyOf(weights, n);
        Arrays.sort(heaviestLast);
        long best = fromDepth(heaviestLast, n, 1, 0, limit, new long[limit + 1][n + 1][n + 1]);
        return best == NONE ? NO_ROOM : best;
    }

    /**
     * The least cost of the n lightest letters when open words of this depth
     * may still be used or made longer: a heavier letter never gets a longer
     * word. known holds answers plus one.
     */
    private static long fromDepth(int[] heaviestLast, int n, int open, int depth, int limit, long[][][] known) {
        if (n == 0) {
            return 0;
        }
        if (depth > limit) {
            return NONE;
        }
        int useful = Math.min(open, n);
        if (known[depth][useful][n] != 0) {
            return known[depth][useful][n] - 1;
        }
        long best = NONE;
        long here = 0;
        for (int used = 0; used <= useful; used++) {
            if (used > 0) {
                here += (long) heaviestLast[n - used] * depth;
            }
            int longer = 2 * (useful - used);
            long rest = fromDepth(heaviestLast, n - used, longer, depth + 1, limit, known);
            if (rest != NONE && (n == used || longer > 0)) {
                best = Math.min(best, here + rest);
            }
        }
        if (best != NONE) {
            known[depth][useful][n] = best + 1;
        }
        return best;
    }
}
