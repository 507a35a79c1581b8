/** Promises 16 and 17: pick and picked. */
public final class PickTest {
    private static final Due DUE = new Due("PickTest");

    public static void main(String[] args) {
        theFirstToBeginIsPicked();
        theLongestIsPicked();
        theLesserNumberIsPicked();
        theNextBeginsBehindTheEnd();
        anOccurrenceAcrossTheEndIsPassedOver();
        pickedIsOfTheLatestPick();
        DUE.finish();
    }

    private static void picks(String text, String want, String... words) {
        ScanDesk desk = Due.desk(words);
        Due.feed(desk, text);
        DUE.is("picked in " + text, Due.picked(desk), want);
    }

    private static void theFirstToBeginIsPicked() {
        picks("shers", "1@2 3@4", "he", "she", "hers", "s");
        picks("xabcd", "1@4", "bc", "abcd", "cd");
    }

    private static void theLongestIsPicked() {
        picks("abcabc", "2@2 2@5", "a", "ab", "abc");
        picks("abab", "1@1 1@3", "a", "ab", "abc");
    }

    private static void theLesserNumberIsPicked() {
        picks("ab", "1@1", "a", "ab", "ab", "ab");
        picks("aa", "0@0 0@1", "a", "a");
    }

    private static void theNextBeginsBehindTheEnd() {
        picks("aaaaa", "0@1 0@3", "aa");
        picks("abab", "0@1 0@3", "ab", "ba");
        picks("ababa", "0@2", "aba");
        picks("abaaba", "0@2 0@5", "aba");
    }

    private static void anOccurrenceAcrossTheEndIsPassedOver() {
        picks("abcde", "0@2 2@4", "abc", "cd", "e");
        picks("abcd", "0@2", "abc", "cd", "bcd");
    }

    private static void pickedIsOfTheLatestPick() {
        ScanDesk desk = Due.desk("a", "aa");
        Due.piece(desk, "a");
        DUE.is("picked(0) without a pick()", desk.picked(0), -1);
        DUE.is("pick()", desk.pick(), 1);
        DUE.is("pick() again", desk.pick(), 1);
        DUE.is("picked(0)", desk.picked(0), 0);
        Due.piece(desk, "");
        DUE.is("picked(0) behind no byte", desk.picked(0), 0);
        desk.text(0, 0, 0, 0, 0, 21);
        DUE.is("picked(0) behind a refused text", desk.picked(0), 0);
        desk.skip(0);
        DUE.is("picked(0) behind a skip", desk.picked(0), 0);
        DUE.is("pick() behind a skip", desk.pick(), 1);
        Due.piece(desk, "x");
        DUE.is("picked(0) behind a byte", desk.picked(0), -1);
        DUE.is("pick() anew", desk.pick(), 1);
        DUE.is("picked(0) anew", desk.picked(0), 0);
        Due.piece(desk, "aa");
        DUE.is("picked(0) behind more bytes", desk.picked(0), -1);
        DUE.is("pick() of all", desk.pick(), 2);
        DUE.is("picked(0) of all", desk.picked(0), 0);
        DUE.is("picked(1) of all", desk.picked(1), 2);
        Due.piece(desk, "\n");
        DUE.is("picked(0) behind a line's end", desk.picked(0), -1);
    }
}
