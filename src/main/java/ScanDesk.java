import java.util.Arrays;

/**
 * Finds all of a set of words in a text that comes in pieces. The words are held as a tree of their
 * prefixes; each prefix knows the longest other prefix that it ends with, so that no byte of the
 * text is looked at again.
 */
public final class ScanDesk {
    public static final int NONE = -1;

    private static final int MOST_PREFIXES = 2000;
    private static final int MOST_BYTES = 40;
    private static final int MOST_WORDS = 60;
    private static final int MOST_FOUND = 3000;
    private static final int MOST_TEXT = 20;
    private static final int LINE_END = 10;
    private static final long LAST_PLACE = 1L << 62;

    private final int room;
    private final int[] nextWord = new int[MOST_BYTES];
    private int nextLength = 0;
    private int wordCount = 0;
    private final int[] counts = new int[MOST_WORDS];
    private final Prefix empty = new Prefix(NONE, 0);
    private int prefixCount = 1;
    private boolean built = false;

    private Prefix current = empty;
    private long nextPlace = 0;
    private int lineNumber = 1;
    private long stepCount = 0;

    private final Row foundWords = new Row();
    private final Row foundBegins = new Row();
    private final Row foundEnds = new Row();
    private final Row foundLines = new Row();

    private final Row picks = new Row();
    private boolean picksHold = false;

    public ScanDesk(int room) {
        this.room = Math.max(1, Math.min(MOST_PREFIXES, room));
    }

    public int put(int b) {
        if (built || nextLength >= MOST_BYTES || b < 0 || b > 255 || b == LINE_END) {
            return NONE;
        }
        nextWord[nextLength] = b;
        nextLength++;
        return nextLength;
    }

    public int add() {
        if (built) {
            return NONE;
        }
        int length = nextLength;
        nextLength = 0;
        if (length == 0 || wordCount >= MOST_WORDS || prefixCount + newPrefixes(length) > room) {
            return NONE;
        }
        int number = wordCount;
        enterPrefixes(length).hold(new Word(number));
        wordCount++;
        return number;
    }

    public int build() {
        if (built) {
            return NONE;
        }
        linkPrefixes();
        built = true;
        return prefixCount;
    }

    public int text(int a, int b, int c, int d, int e, int n) {
        if (!built || n < 0 || n > MOST_TEXT || foundEnds.size > MOST_FOUND) {
            return NONE;
        }
        int before = foundEnds.size;
        takeFour(a, n);
        takeFour(b, n - 4);
        takeFour(c, n - 8);
        takeFour(d, n - 12);
        takeFour(e, n - 16);
        if (n > 0) {
            forgetPicks();
        }
        return foundEnds.size - before;
    }

    public boolean skip(long n) {
        // The place may stand above LAST_PLACE already, by text alone: then even 0 is too many.
        if (!built || n < 0 || n > LAST_PLACE - nextPlace) {
            return false;
        }
        nextPlace += n;
        current = empty;
        return true;
    }

    public long place() {
        return nextPlace;
    }

    public int found() {
        return foundEnds.size;
    }

    public int word(int k) {
        return (int) foundWords.at(k);
    }

    public long end(int k) {
        return foundEnds.at(k);
    }

    public int count(int word) {
        if (word < 0 || word >= wordCount) {
            return NONE;
        }
        return counts[word];
    }

    public int lines() {
        return foundLines.size;
    }

    public int line(int k) {
        return (int) foundLines.at(k);
    }

    public long steps() {
        return stepCount;
    }

    public int state() {
        return current.length;
    }

    public int pick() {
        if (!picksHold) {
            pickAll();
            picksHold = true;
        }
        return picks.size;
    }

    public int picked(int k) {
        return (int) picks.at(k);
    }

    /** Counted before any is entered, so that a word that is refused leaves no prefix behind. */
    private int newPrefixes(int length) {
        Prefix at = empty;
        for (int i = 0; i < length; i++) {
            at = at.longerBy(nextWord[i]);
            if (at == null) {
                return length - i;
            }
        }
        return 0;
    }

    private Prefix enterPrefixes(int length) {
        Prefix at = empty;
        for (int i = 0; i < length; i++) {
            Prefix longer = at.longerBy(nextWord[i]);
            if (longer == null) {
                longer = at.grow(nextWord[i]);
                prefixCount++;
            }
            at = longer;
        }
        return at;
    }

    /** Shorter prefixes come first, because a longer one's fallback is found by way of theirs. */
    private void linkPrefixes() {
        Prefix last = empty;
        Prefix parent = empty;
        for (int done = 0; done < prefixCount && parent != null; done++) {
            for (Prefix child = parent.firstChild; child != null; child = child.sibling) {
                child.fallback = longestWith(parent.fallback, child.lastByte);
                last.following = child;
                last = child;
            }
            parent = parent.following;
        }
    }

    /** Of the given prefix and its fallbacks, the first that can have the byte behind it, with it. */
    private Prefix longestWith(Prefix from, int b) {
        for (Prefix at = from; at != null; at = at.fallback) {
            Prefix longer = at.longerBy(b);
            if (longer != null) {
                return longer;
            }
        }
        return empty;
    }

    private void takeFour(int four, int n) {
        for (int i = 0; i < 4 && i < n; i++) {
            take((four >>> (24 - 8 * i)) & 255);
        }
    }

    private void take(int b) {
        if (b == LINE_END) {
            stepCount++;
            lineNumber++;
            current = empty;
        } else {
            moveState(b);
            noteOccurrences();
        }
        nextPlace++;
    }

    private void moveState(int b) {
        int fallbacks = 0;
        Prefix longer = current.longerBy(b);
        for (Prefix at = current.fallback; longer == null && at != null; at = at.fallback) {
            fallbacks++;
            longer = at.longerBy(b);
        }
        stepCount += 1 + fallbacks;
        current = longer == null ? empty : longer;
    }

    /** The way down the fallbacks goes from longer words to shorter ones, as the order asks. */
    private void noteOccurrences() {
        for (Prefix at = current; at != null; at = at.fallback) {
            for (Word word = at.firstWord; word != null; word = word.nextSame) {
                noteOccurrence(word.number, at.length);
            }
        }
    }

    private void noteOccurrence(int number, int length) {
        counts[number]++;
        foundWords.append(number);
        foundBegins.append(nextPlace - length + 1);
        foundEnds.append(nextPlace);
        if (foundLines.at(foundLines.size - 1) != lineNumber) {
            foundLines.append(lineNumber);
        }
    }

    private void forgetPicks() {
        picks.clear();
        picksHold = false;
    }

    private void pickAll() {
        picks.clear();
        long lastEnd = -1;
        for (int k = 0; k < foundEnds.size; k++) {
            if (foundEnds.at(k) > lastEnd) {
                int best = bestBehind(lastEnd, k);
                if (best == NONE) {
                    return;
                }
                picks.append(best);
                lastEnd = foundEnds.at(best);
            }
        }
    }

    /** The occurrence to pick of those from number first on that begin behind the given place. */
    private int bestBehind(long lastEnd, int first) {
        int best = NONE;
        for (int k = first; k < foundEnds.size; k++) {
            // No word is long enough to end here, or later, and begin as early as the best one.
            if (best != NONE && foundEnds.at(k) - MOST_BYTES >= foundBegins.at(best)) {
                return best;
            }
            if (foundBegins.at(k) > lastEnd && (best == NONE || isBetter(k, best))) {
                best = k;
            }
        }
        return best;
    }

    /** With k behind best in the order of occurrences: of two alike, best has the lesser number. */
    private boolean isBetter(int k, int best) {
        long begin = foundBegins.at(k);
        long bestBegin = foundBegins.at(best);
        return begin < bestBegin || (begin == bestBegin && foundEnds.at(k) > foundEnds.at(best));
    }

    /** A word's number, chained to those of the same bytes in the order of their numbers. */
    private static final class Word {
        private final int number;
        private Word nextSame = null;

        private Word(int number) {
            this.number = number;
        }
    }

    private static final class Prefix {
        private final int lastByte;
        private final int length;
        private Prefix firstChild = null;
        private Prefix sibling = null;
        /** The longest other prefix that this one ends with; null for the empty one alone. */
        private Prefix fallback = null;
        /** The next one in the order of length. */
        private Prefix following = null;
        private Word firstWord = null;
        private Word lastWord = null;

        private Prefix(int lastByte, int length) {
            this.lastByte = lastByte;
            this.length = length;
        }

        private Prefix longerBy(int b) {
            Prefix child = firstChild;
            while (child != null && child.lastByte != b) {
                child = child.sibling;
            }
            return child;
        }

        private Prefix grow(int b) {
            Prefix child = new Prefix(b, length + 1);
            child.sibling = firstChild;
            firstChild = child;
            return child;
        }

        private void hold(Word word) {
            if (lastWord == null) {
                firstWord = word;
            } else {
                lastWord.nextSame = word;
            }
            lastWord = word;
        }
    }

    /** Numbers in a row that grows as it fills, so that an object is only as large as its use. */
    private static final class Row {
        private long[] items = new long[16];
        private int size = 0;

        private void append(long item) {
            if (size >= items.length) {
                items = Arrays.copyOf(items, 2 * items.length);
            }
            items[size] = item;
            size++;
        }

        private long at(int k) {
            return k >= 0 && k < size ? items[k] : NONE;
        }

        private void clear() {
            size = 0;
        }
    }
}
