import java.util.ArrayList;
import java.util.Comparator;
import java.util.HashSet;
import java.util.List;
import java.util.Set;

/** What the document says, done in the plainest way: every prefix and every word is tried anew. */
final class PlainDesk {
    private static final long TOP = 1L << 62;

    private final int room;
    private final List<String> words = new ArrayList<>();
    private Set<String> prefixes = new HashSet<>(Set.of(""));
    private String next = "";
    private boolean built = false;

    /** The text behind the last line's end or skip: nothing found can begin before it. */
    private String tail = "";
    private String state = "";
    private long place = 0;
    private int line = 1;
    private long steps = 0;
    private final List<Integer> foundWords = new ArrayList<>();
    private final List<Long> foundEnds = new ArrayList<>();
    private final List<Integer> lines = new ArrayList<>();
    private List<Integer> picks = new ArrayList<>();

    PlainDesk(int room) {
        this.room = room < 1 ? 1 : room > 2000 ? 2000 : room;
    }

    int put(int b) {
        if (built || next.length() == 40 || b < 0 || b > 255 || b == 10) {
            return -1;
        }
        next += (char) b;
        return next.length();
    }

    int add() {
        if (built) {
            return -1;
        }
        String word = next;
        next = "";
        Set<String> more = new HashSet<>(prefixes);
        for (int length = 1; length <= word.length(); length++) {
            more.add(word.substring(0, length));
        }
        if (word.isEmpty() || words.size() == 60 || more.size() > room) {
            return -1;
        }
        prefixes = more;
        words.add(word);
        return words.size() - 1;
    }

    int build() {
        if (built) {
            return -1;
        }
        built = true;
        return prefixes.size();
    }

    int text(int[] fours, int n) {
        if (!built || n < 0 || n > 20 || foundEnds.size() > 3000) {
            return -1;
        }
        int before = foundEnds.size();
        for (int i = 0; i < n; i++) {
            take((char) ((fours[i / 4] >> (8 * (3 - i % 4))) & 255));
            picks = new ArrayList<>();
        }
        return foundEnds.size() - before;
    }

    private void take(char b) {
        steps++;
        if (b == 10) {
            line++;
            tail = "";
            state = "";
        } else {
            tail += b;
            while (!prefixes.contains(state + b) && !state.isEmpty()) {
                state = longestPrefixAtTheEnd(state.substring(1));
                steps++;
            }
            state = longestPrefixAtTheEnd(tail);
            findEnds();
        }
        place++;
    }

    private String longestPrefixAtTheEnd(String bytes) {
        for (int from = Math.max(0, bytes.length() - 40); from < bytes.length(); from++) {
            if (prefixes.contains(bytes.substring(from))) {
                return bytes.substring(from);
            }
        }
        return "";
    }

    private void findEnds() {
        for (int length = 40; length >= 1; length--) {
            for (int w = 0; w < words.size(); w++) {
                if (words.get(w).length() == length && tail.endsWith(words.get(w))) {
                    foundWords.add(w);
                    foundEnds.add(place);
                    if (!lines.contains(line)) {
                        lines.add(line);
                    }
                }
            }
        }
    }

    boolean skip(long n) {
        if (!built || n < 0 || n > TOP || place + n > TOP) {
            return false;
        }
        place += n;
        tail = "";
        state = "";
        return true;
    }

    long place() {
        return place;
    }

    int found() {
        return foundEnds.size();
    }

    int word(int k) {
        return k < 0 || k >= foundWords.size() ? -1 : foundWords.get(k);
    }

    long end(int k) {
        return k < 0 || k >= foundEnds.size() ? -1 : foundEnds.get(k);
    }

    int count(int word) {
        if (word < 0 || word >= words.size()) {
            return -1;
        }
        return (int) foundWords.stream().filter(w -> w == word).count();
    }

    int lines() {
        return lines.size();
    }

    int line(int k) {
        return k < 0 || k >= lines.size() ? -1 : lines.get(k);
    }

    long steps() {
        return steps;
    }

    int state() {
        return state.length();
    }

    int pick() {
        picks = new ArrayList<>();
        long lastEnd = -1;
        for (int k : byPreference()) {
            if (begin(k) > lastEnd) {
                picks.add(k);
                lastEnd = end(k);
            }
        }
        return picks.size();
    }

    private List<Integer> byPreference() {
        List<Integer> all = new ArrayList<>();
        for (int k = 0; k < found(); k++) {
            all.add(k);
        }
        all.sort(Comparator.<Integer>comparingLong(this::begin)
                .thenComparingInt(k -> -length(k))
                .thenComparingInt(this::word));
        return all;
    }

    private int length(int k) {
        return words.get(word(k)).length();
    }

    private long begin(int k) {
        return end(k) - length(k) + 1;
    }

    int picked(int k) {
        return k < 0 || k >= picks.size() ? -1 : picks.get(k);
    }
}
