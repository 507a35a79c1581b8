/** The boundary cases of promises 16 and 17 and of the term PICKED, each in its own test. */
public final class PickEdgesTest {
    private static final Due DUE = new Due("PickEdgesTest");

    public static void main(String[] args) {
        theNextBeginsBehindTheEnd();
        oneThatBeginsAtTheEndIsPassedOver();
        theFirstIsOfAll();
        theOneThatBeginsFirstIsPicked();
        aLateOneIsPickedForItsBegin();
        fortyBytesBackAreSeen();
        theLongestIsPicked();
        theLesserNumberIsPicked();
        picksGoOnToTheLast();

        pickWithoutOccurrencesIsZero();
        pickBeforeBuildingIsZero();
        pickIsOfAllSoFar();
        pickAgainIsTheSame();

        pickedHasNoneBelowZero();
        pickedHasNoneBehindTheLast();
        pickedHasNoneWithoutAPick();
        pickedHasNoneBehindAByte();
        pickedHasNoneBehindALineEnd();
        pickedStaysBehindATextWithoutAByte();
        pickedStaysBehindARefusedText();
        pickedStaysBehindASkip();
        pickedIsOfTheLatestPick();
        DUE.finish();
    }

    private static void picks(String text, String want, String... words) {
        ScanDesk desk = Due.desk(words);
        Due.feed(desk, text);
        DUE.is("picked in " + text, Due.picked(desk), want);
    }

    private static void theNextBeginsBehindTheEnd() {
        DUE.says("PICKED", "that begin behind the place at which the one picked before ends");
        picks("abcd", "0@1 1@3", "ab", "cd");
        picks("aaaaa", "0@0 0@1 0@2 0@3 0@4", "a");
    }

    private static void oneThatBeginsAtTheEndIsPassedOver() {
        DUE.says("PICKED", "that begin behind the place at which the one picked before ends");
        picks("abc", "0@1", "ab", "bc");
        picks("aaaaa", "0@1 0@3", "aa");
        picks("abcde", "0@2 2@4", "abc", "cd", "e");
    }

    private static void theFirstIsOfAll() {
        DUE.says("PICKED", "at first: all");
        picks("ab", "0@0", "a");
        picks("xxb", "0@2", "b");
    }

    private static void theOneThatBeginsFirstIsPicked() {
        DUE.says("PICKED", "the one that begins first");
        picks("xabc", "1@2", "bc", "ab");
        picks("xabcd", "1@4", "bc", "abcd", "cd");
    }

    private static void aLateOneIsPickedForItsBegin() {
        DUE.says("PICKED", "the one that begins first");
        picks("abbbbbbbc", "1@8", "b", "abbbbbbbc");
        picks("abbbbbbbd", "0@1 0@2 0@3 0@4 0@5 0@6 0@7", "b", "abbbbbbbc");
    }

    private static void fortyBytesBackAreSeen() {
        DUE.says("PICKED", "the one that begins first");
        String forty = "a" + "b".repeat(39);
        picks("b" + forty + "b", "0@0 1@40 0@41", "b", forty);
        picks(forty, "2@39", "ab", "b".repeat(39), forty);
        picks(forty, "1@39", "a", forty);
    }

    private static void theLongestIsPicked() {
        DUE.says("PICKED", "of those the longest one");
        picks("abcabc", "1@2 1@5", "a", "abc", "ab");
        picks("abab", "2@1 2@3", "a", "abc", "ab");
    }

    private static void theLesserNumberIsPicked() {
        DUE.says("PICKED", "of those the lesser number");
        picks("ab", "1@1", "a", "ab", "ab", "ab");
        picks("aa", "0@0 0@1", "a", "a");
    }

    private static void picksGoOnToTheLast() {
        DUE.says("PICKED", "and so on");
        ScanDesk desk = Due.desk("ab", "b");
        Due.piece(desk, "ab\nb");
        desk.skip(1L << 40);
        Due.piece(desk, "bab");
        long far = (1L << 40) + 4;
        DUE.is("picked over lines and a skip", Due.picked(desk), "0@1 1@3 1@" + far + " 0@" + (far + 2));
    }

    private static void pickWithoutOccurrencesIsZero() {
        DUE.says("16", "how many are picked");
        ScanDesk desk = Due.desk("a");
        DUE.is("pick() before the text", desk.pick(), 0);
        DUE.is("picked(0)", desk.picked(0), -1);
        Due.piece(desk, "bbb");
        DUE.is("pick() behind bbb", desk.pick(), 0);
        DUE.is("picked(0) behind bbb", desk.picked(0), -1);
    }

    private static void pickBeforeBuildingIsZero() {
        DUE.says("16", "how many are picked");
        ScanDesk desk = new ScanDesk(2000);
        DUE.is("pick() of a new object", desk.pick(), 0);
        Due.word(desk, "a");
        DUE.is("pick() with a word", desk.pick(), 0);
        DUE.is("picked(0)", desk.picked(0), -1);
        desk.build();
        Due.piece(desk, "a");
        DUE.is("pick() behind a", desk.pick(), 1);
    }

    private static void pickIsOfAllSoFar() {
        DUE.says("16", "among all occurrences so far");
        ScanDesk desk = Due.desk("ab", "abcd", "bc");
        Due.piece(desk, "ab");
        DUE.is("picked behind ab", Due.picked(desk), "0@1");
        Due.piece(desk, "c");
        DUE.is("picked behind abc", Due.picked(desk), "0@1");
        Due.piece(desk, "d");
        DUE.is("picked behind abcd", Due.picked(desk), "1@3");
        Due.piece(desk, "ab");
        DUE.is("picked behind abcdab", Due.picked(desk), "1@3 0@5");
    }

    private static void pickAgainIsTheSame() {
        DUE.says("16", "Picks among all occurrences so far");
        ScanDesk desk = threePicked();
        DUE.is("pick() again", desk.pick(), 3);
        DUE.is("picked(2)", desk.picked(2), 2);
        DUE.is("picked(3)", desk.picked(3), -1);
    }

    private static ScanDesk threePicked() {
        ScanDesk desk = Due.desk("a");
        Due.piece(desk, "aaa");
        DUE.is("pick()", desk.pick(), 3);
        return desk;
    }

    private static void pickedHasNoneBelowZero() {
        DUE.says("17", "NONE when there is none such");
        ScanDesk desk = threePicked();
        int[] below = {-1, -2, -16, Integer.MIN_VALUE};
        for (int k : below) {
            DUE.is("picked(" + k + ")", desk.picked(k), -1);
        }
        DUE.is("picked(0)", desk.picked(0), 0);
    }

    /** A pick of many comes first: what it leaves behind in a row is none of the pick of few. */
    private static void pickedHasNoneBehindTheLast() {
        DUE.says("17", "NONE when there is none such");
        ScanDesk desk = Due.desk("b", "abbbbbbc");
        Due.piece(desk, "abbbbbb");
        DUE.is("pick() of many", desk.pick(), 6);
        DUE.is("picked(5)", desk.picked(5), 5);
        Due.piece(desk, "c");
        DUE.is("pick() of few", desk.pick(), 1);
        DUE.is("picked(0)", desk.picked(0), 6);
        int[] behind = {1, 2, 5, 6, 15, 16, Integer.MAX_VALUE};
        for (int k : behind) {
            DUE.is("picked(" + k + ")", desk.picked(k), -1);
        }
    }

    private static void pickedHasNoneWithoutAPick() {
        DUE.says("17", "or there was no pick()");
        ScanDesk desk = new ScanDesk(2000);
        DUE.is("picked(0) of a new object", desk.picked(0), -1);
        Due.word(desk, "a");
        desk.build();
        Due.piece(desk, "a");
        DUE.is("picked(0) with an occurrence", desk.picked(0), -1);
    }

    private static void pickedHasNoneBehindAByte() {
        DUE.says("17", "or it is older than the latest text() with a byte");
        ScanDesk desk = threePicked();
        Due.piece(desk, "x");
        DUE.is("picked(0) behind x", desk.picked(0), -1);
        DUE.is("picked(2) behind x", desk.picked(2), -1);
        Due.piece(desk, "");
        DUE.is("picked(0) behind nothing more", desk.picked(0), -1);
    }

    private static void pickedHasNoneBehindALineEnd() {
        DUE.says("17", "or it is older than the latest text() with a byte");
        ScanDesk desk = threePicked();
        Due.piece(desk, "\n");
        DUE.is("picked(0) behind a byte 10", desk.picked(0), -1);
    }

    private static void pickedStaysBehindATextWithoutAByte() {
        DUE.says("17", "the latest text() with a byte");
        ScanDesk desk = threePicked();
        DUE.is("text of 0", desk.text(0x61616161, 0, 0, 0, 0, 0), 0);
        DUE.is("picked(0)", desk.picked(0), 0);
        DUE.is("picked(2)", desk.picked(2), 2);
    }

    private static void pickedStaysBehindARefusedText() {
        DUE.says("17", "the latest text() with a byte");
        ScanDesk desk = threePicked();
        desk.text(0x61616161, 0, 0, 0, 0, 21);
        desk.text(0x61616161, 0, 0, 0, 0, -1);
        DUE.is("picked(2)", desk.picked(2), 2);
    }

    private static void pickedStaysBehindASkip() {
        DUE.says("17", "the latest text() with a byte");
        ScanDesk desk = threePicked();
        desk.skip(0);
        desk.skip(100);
        DUE.is("picked(2)", desk.picked(2), 2);
    }

    private static void pickedIsOfTheLatestPick() {
        DUE.says("17", "Of the latest pick()");
        ScanDesk desk = threePicked();
        Due.piece(desk, "xa");
        DUE.is("pick() anew", desk.pick(), 4);
        DUE.is("picked(0)", desk.picked(0), 0);
        DUE.is("picked(3)", desk.picked(3), 3);
        DUE.is("picked(4)", desk.picked(4), -1);
    }
}
