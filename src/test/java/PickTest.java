/** Promises 16 and 17: pick and picked. */
public final class PickTest {
    private static final Due DUE = new Due("PickTest");

    public static void main(String[] args) {
        theFirstToBeginIsPicked();
        theLongestIsPicked();
        theLesserNumberIsPicked();
        theNextBeginsBehindTheEnd();
        aLateLongOneIsPickedForItsBegin();
        anOccurrenceAcrossTheEndIsPassedOver();
        fortyBytesBackAreSeen();
        picksGoOverSkipsAndLines();
        pickedIsOfTheLatestPick();
        withoutOccurrences();
        wrongNumbersHaveNone();
        DUE.finish();
    }

    private static void picks(String text, String want, String... words) {
        ScanDesk desk = Due.desk(words);
        Due.feed(desk, text);
        DUE.is("picked in " + text, Due.picked(desk), want);
    }

    private static void theFirstToBeginIsPicked() {
        picks("shers", "1@2 3@4", "he", "she", "hers", "s");
        picks("xabcd", "1@4", "bc", "abcd", "cd");
    }

    private static void theLongestIsPicked() {
        picks("abcabc", "2@2 2@5", "a", "ab", "abc");
        picks("abab", "1@1 1@3", "a", "ab", "abc");
    }

    private static void theLesserNumberIsPicked() {
        picks("ab", "1@1", "a", "ab", "ab", "ab");
        picks("aa", "0@0 0@1", "a", "a");
    }

    private static void theNextBeginsBehindTheEnd() {
        picks("aaaaa", "0@1 0@3", "aa");
        picks("abab", "0@1 0@3", "ab", "ba");
        picks("ababa", "0@2", "aba");
        picks("abaaba", "0@2 0@5", "aba");
    }

    /** The short ones end long before the long one, which begins before them. */
    private static void aLateLongOneIsPickedForItsBegin() {
        picks("abbbbbbbc", "1@8", "b", "abbbbbbbc");
        picks("abbbbbbbd", "0@1 0@2 0@3 0@4 0@5 0@6 0@7", "b", "abbbbbbbc");
    }

    private static void anOccurrenceAcrossTheEndIsPassedOver() {
        picks("abcde", "0@2 2@4", "abc", "cd", "e");
        picks("abcd", "0@2", "abc", "cd", "bcd");
    }

    private static void fortyBytesBackAreSeen() {
        String forty = "a" + "b".repeat(39);
        ScanDesk desk = Due.desk("b", forty);
        Due.feed(desk, "b" + forty + "b");
        DUE.is("found()", desk.found(), 42);
        DUE.is("picked", Due.picked(desk), "0@0 1@40 0@41");
        ScanDesk same = Due.desk("a", forty);
        Due.feed(same, forty);
        DUE.is("picked of two that begin alike", Due.picked(same), "1@39");
        ScanDesk inner = Due.desk("ab", "b".repeat(39), forty);
        Due.feed(inner, forty);
        DUE.is("picked of three", Due.picked(inner), "2@39");
    }

    private static void picksGoOverSkipsAndLines() {
        ScanDesk desk = Due.desk("ab", "b");
        Due.piece(desk, "ab\nb");
        desk.skip(1L << 40);
        Due.piece(desk, "bab");
        long far = (1L << 40) + 4;
        DUE.is("picked", Due.picked(desk), "0@1 1@3 1@" + far + " 0@" + (far + 2));
    }

    private static void pickedIsOfTheLatestPick() {
        ScanDesk desk = Due.desk("a", "aa");
        Due.piece(desk, "a");
        DUE.is("picked(0) without a pick()", desk.picked(0), -1);
        DUE.is("pick()", desk.pick(), 1);
        DUE.is("pick() again", desk.pick(), 1);
        DUE.is("picked(0)", desk.picked(0), 0);
        Due.piece(desk, "");
        DUE.is("picked(0) behind no byte", desk.picked(0), 0);
        desk.text(0, 0, 0, 0, 0, 21);
        DUE.is("picked(0) behind a refused text", desk.picked(0), 0);
        desk.skip(0);
        DUE.is("picked(0) behind a skip", desk.picked(0), 0);
        DUE.is("pick() behind a skip", desk.pick(), 1);
        Due.piece(desk, "x");
        DUE.is("picked(0) behind a byte", desk.picked(0), -1);
        DUE.is("pick() anew", desk.pick(), 1);
        DUE.is("picked(0) anew", desk.picked(0), 0);
        Due.piece(desk, "aa");
        DUE.is("picked(0) behind more bytes", desk.picked(0), -1);
        DUE.is("pick() of all", desk.pick(), 2);
        DUE.is("picked(0) of all", desk.picked(0), 0);
        DUE.is("picked(1) of all", desk.picked(1), 2);
        Due.piece(desk, "\n");
        DUE.is("picked(0) behind a line's end", desk.picked(0), -1);
    }

    private static void withoutOccurrences() {
        ScanDesk desk = new ScanDesk(10);
        DUE.is("pick() before build()", desk.pick(), 0);
        DUE.is("picked(0) before build()", desk.picked(0), -1);
        Due.word(desk, "a");
        desk.build();
        DUE.is("pick() before the text", desk.pick(), 0);
        Due.piece(desk, "bbb");
        DUE.is("pick()", desk.pick(), 0);
        DUE.is("picked(0)", desk.picked(0), -1);
        Due.piece(desk, "a");
        DUE.is("pick() of one", desk.pick(), 1);
    }

    private static void wrongNumbersHaveNone() {
        ScanDesk desk = Due.desk("a");
        Due.piece(desk, "aaa");
        desk.pick();
        int[] wrong = {-1, 3, 4, Integer.MIN_VALUE, Integer.MAX_VALUE};
        for (int k : wrong) {
            DUE.is("picked(" + k + ")", desk.picked(k), -1);
        }
        DUE.is("picked(2)", desk.picked(2), 2);
    }
}
