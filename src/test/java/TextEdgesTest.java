/** The boundary cases of promises 5 to 7 and of the terms of the text, each in its own test. */
public final class TextEdgesTest {
    private static final Due DUE = new Due("TextEdgesTest");
    private static final long TOP = 1L << 62;
    private static final int A = 0x61616161;

    public static void main(String[] args) {
        placesAreNumberedFromZero();
        placesAreLongs();
        theTextComesByteByByte();
        aByteTenEndsALine();
        linesAreNumberedFromOne();

        textTakesTheFirstBytesAlone();
        textTakesTheHighestByteFirst();
        textOfNothingChangesNothing();
        textCountsWhatEndsThere();
        textRefusesBeforeBuilding();
        textRefusesBelowZero();
        textRefusesAboveTwenty();
        textIsTakenAtThreeThousand();
        textRefusesAboveThreeThousand();
        textMayGoAboveThreeThousandInOneCall();

        skipGoesOnBehindTheBytes();
        skipMakesTheStateEmpty();
        skipOfNothingMakesTheStateEmpty();
        skipStaysInItsLine();
        skipRefusesBeforeBuilding();
        skipRefusesBelowZero();
        skipGoesToTheTop();
        skipRefusesAboveTheTop();
        skipRefusesWhereTheSumWrapsAround();
        skipRefusesWhenTextWentAboveTheTop();

        placeIsOfTheNextByte();
        placeGoesAboveTheTopByText();
        DUE.finish();
    }

    private static void placesAreNumberedFromZero() {
        DUE.says("THE TEXT", "its PLACES are numbered from 0");
        ScanDesk desk = Due.desk("a");
        DUE.is("place() at first", desk.place(), 0);
        Due.piece(desk, "a");
        DUE.is("end(0)", desk.end(0), 0);
    }

    private static void placesAreLongs() {
        DUE.says("THE TEXT", "as longs");
        ScanDesk desk = Due.desk("ab");
        desk.skip((1L << 31) - 1);
        Due.piece(desk, "ab");
        desk.skip((1L << 32) - desk.place() - 1);
        Due.piece(desk, "ab");
        DUE.is("end(0)", desk.end(0), 1L << 31);
        DUE.is("end(1)", desk.end(1), 1L << 32);
        DUE.is("place()", desk.place(), (1L << 32) + 1);
        DUE.is("picked", Due.picked(desk), "0@" + (1L << 31) + " 0@" + (1L << 32));
    }

    private static void theTextComesByteByByte() {
        DUE.says("THE TEXT", "it comes byte by byte");
        String text = "abcabcab\ncabcabcabcabcababc\nab";
        ScanDesk whole = Due.desk("abcab", "ca", "c");
        Due.feed(whole, text);
        ScanDesk single = Due.desk("abcab", "ca", "c");
        for (int i = 0; i < text.length(); i++) {
            Due.piece(single, text.substring(i, i + 1));
        }
        DUE.is("all of single bytes", Due.all(single), Due.all(whole));
    }

    private static void aByteTenEndsALine() {
        DUE.says("THE TEXT", "A byte 10 ends a LINE");
        ScanDesk desk = Due.desk("a");
        Due.piece(desk, "a\na\n\na");
        DUE.is("lines", Due.lines(desk), "1 2 4");
        Due.piece(desk, "\ra\ra\u000ba");
        DUE.is("lines behind bytes 13 and 11", Due.lines(desk), "1 2 4");
    }

    private static void linesAreNumberedFromOne() {
        DUE.says("THE TEXT", "lines are numbered from 1");
        ScanDesk desk = Due.desk("a");
        Due.piece(desk, "a");
        DUE.is("line(0)", desk.line(0), 1);
    }

    private static void textTakesTheFirstBytesAlone() {
        DUE.says("5", "The first n of twenty bytes of the text");
        for (int n = 0; n <= 20; n++) {
            ScanDesk desk = Due.desk("a");
            DUE.is("text of " + n, desk.text(A, A, A, A, A, n), n);
            DUE.is("place() behind " + n, desk.place(), n);
            DUE.is("found() behind " + n, desk.found(), n);
        }
    }

    private static void textTakesTheHighestByteFirst() {
        DUE.says("5", "highest byte of each first");
        ScanDesk desk = Due.desk("\u0001\u0002\u0003\u0004", "\u00fe\u00ff", "\u0014", "\u0080\u0000");
        DUE.is("text of twenty",
                desk.text(0x01020304, 0x05060708, 0x090B0CFE, 0xFF0D0E0F, 0x10111214, 20), 3);
        DUE.is("text of negative ints", desk.text(0x80008000, -1, -1, -1, 0xFEFFFEFF, 20), 4);
        DUE.is("found", Due.found(desk), "0@3 1@12 2@19 3@21 3@23 1@37 1@39");
    }

    private static void textOfNothingChangesNothing() {
        DUE.says("5", "n is not 0 .. 20");
        ScanDesk desk = Due.desk("ab", "a");
        Due.piece(desk, "aba");
        desk.pick();
        String before = Due.all(desk);
        DUE.is("text of 0", desk.text(A, A, A, A, A, 0), 0);
        DUE.is("everything behind it", Due.all(desk), before);
        DUE.is("b", Due.piece(desk, "b"), 1);
    }

    private static void textCountsWhatEndsThere() {
        DUE.says("5", "how many occurrences end there");
        ScanDesk desk = Due.desk("abcd", "bc");
        DUE.is("ab", Due.piece(desk, "ab"), 0);
        DUE.is("cdbc", Due.piece(desk, "cdbc"), 3);
        DUE.is("x", Due.piece(desk, "x"), 0);
    }

    private static void textRefusesBeforeBuilding() {
        DUE.says("5", "NONE when building is not done");
        ScanDesk desk = new ScanDesk(2000);
        DUE.refuses(desk, "text without a word", () -> Due.piece(desk, "a"));
        Due.word(desk, "a");
        desk.put('b');
        int[] counts = {0, 1, 20};
        for (int n : counts) {
            DUE.refuses(desk, "text of " + n, () -> desk.text(A, A, A, A, A, n));
        }
        DUE.is("put(98), the word goes on", desk.put('b'), 2);
        desk.build();
        DUE.is("text of 1 when built", Due.piece(desk, "a"), 1);
        DUE.is("end(0)", desk.end(0), 0);
    }

    private static void textRefusesBelowZero() {
        DUE.says("5", "or n is not 0 .. 20");
        int[] wrong = {-1, -2, -20, Integer.MIN_VALUE};
        refusesLengths(wrong);
    }

    private static void textRefusesAboveTwenty() {
        DUE.says("5", "or n is not 0 .. 20");
        int[] wrong = {21, 22, 255, 256, Integer.MAX_VALUE};
        refusesLengths(wrong);
        ScanDesk desk = Due.desk("a");
        DUE.is("text of 20", desk.text(A, A, A, A, A, 20), 20);
    }

    private static void refusesLengths(int[] wrong) {
        ScanDesk desk = Due.desk("a", "aab");
        Due.piece(desk, "\naa");
        desk.pick();
        for (int n : wrong) {
            DUE.refuses(desk, "text of " + n, () -> desk.text(A, A, A, A, A, n));
        }
        DUE.is("b behind them", Due.piece(desk, "b"), 1);
        DUE.is("lines", Due.lines(desk), "2");
    }

    private static ScanDesk threeThousand() {
        ScanDesk desk = Due.desk("a", "a", "a", "a", "a", "a", "a", "a", "a", "a", "b");
        Due.feed(desk, "a".repeat(300));
        DUE.is("found() at 3000", desk.found(), 3000);
        return desk;
    }

    private static void textIsTakenAtThreeThousand() {
        DUE.says("5", "or there are more than 3000 occurrences");
        ScanDesk desk = threeThousand();
        DUE.is("nothing", Due.piece(desk, ""), 0);
        DUE.is("cc", Due.piece(desk, "cc"), 0);
        DUE.is("b", Due.piece(desk, "b"), 1);
        DUE.is("found()", desk.found(), 3001);
        DUE.is("word(3000)", desk.word(3000), 10);
        DUE.is("end(3000)", desk.end(3000), 302);
    }

    private static void textRefusesAboveThreeThousand() {
        DUE.says("5", "or there are more than 3000 occurrences");
        ScanDesk desk = threeThousand();
        Due.piece(desk, "b");
        DUE.is("pick()", desk.pick(), 301);
        DUE.is("c", Due.piece(desk, "c"), -1);
        DUE.is("a", Due.piece(desk, "a"), -1);
        DUE.is("a line's end", Due.piece(desk, "\n"), -1);
        DUE.is("nothing", Due.piece(desk, ""), -1);
        DUE.is("found()", desk.found(), 3001);
        DUE.is("place()", desk.place(), 301);
        DUE.is("steps()", desk.steps(), 601);
        DUE.is("state()", desk.state(), 1);
        DUE.is("count(0)", desk.count(0), 300);
        DUE.is("picked(300)", desk.picked(300), 3000);
        DUE.is("skip(5)", desk.skip(5), true);
        DUE.is("c behind a skip", Due.piece(desk, "c"), -1);
        DUE.is("place() behind a skip", desk.place(), 306);
    }

    private static void textMayGoAboveThreeThousandInOneCall() {
        DUE.says("5", "or there are more than 3000 occurrences");
        String[] same = new String[60];
        java.util.Arrays.fill(same, "a");
        ScanDesk desk = Due.desk(same);
        DUE.is("3000", Due.feed(desk, "a".repeat(50)), 3000);
        DUE.is("twenty bytes more", Due.piece(desk, "a".repeat(20)), 1200);
        DUE.is("one byte more", Due.piece(desk, "a"), -1);
        DUE.is("found()", desk.found(), 4200);
        DUE.is("count(59)", desk.count(59), 70);
        DUE.is("word(4199)", desk.word(4199), 59);
        DUE.is("end(4199)", desk.end(4199), 69);
        DUE.is("word(4200)", desk.word(4200), -1);
        DUE.is("end(4200)", desk.end(4200), -1);
        DUE.is("pick()", desk.pick(), 70);
        DUE.is("picked(69)", desk.picked(69), 69 * 60);
    }

    private static void skipGoesOnBehindTheBytes() {
        DUE.says("6", "places go on behind them");
        ScanDesk desk = Due.desk("b");
        Due.piece(desk, "b");
        DUE.is("skip(1)", desk.skip(1), true);
        Due.piece(desk, "b");
        DUE.is("skip(1000)", desk.skip(1000), true);
        Due.piece(desk, "b");
        DUE.is("found", Due.found(desk), "0@0 0@2 0@1003");
        DUE.is("place()", desk.place(), 1004);
    }

    private static void skipMakesTheStateEmpty() {
        DUE.says("6", "the state is the empty prefix");
        ScanDesk desk = Due.desk("abc");
        Due.piece(desk, "ab");
        DUE.is("skip(3)", desk.skip(3), true);
        DUE.is("state()", desk.state(), 0);
        DUE.is("steps(): a skip is none", desk.steps(), 2);
        DUE.is("c", Due.piece(desk, "c"), 0);
        DUE.is("abc", Due.piece(desk, "abc"), 1);
    }

    private static void skipOfNothingMakesTheStateEmpty() {
        DUE.says("6", "the state is the empty prefix");
        ScanDesk desk = Due.desk("abc");
        Due.piece(desk, "ab");
        DUE.is("skip(0)", desk.skip(0), true);
        DUE.is("state()", desk.state(), 0);
        DUE.is("place()", desk.place(), 2);
        DUE.is("c", Due.piece(desk, "c"), 0);
    }

    private static void skipStaysInItsLine() {
        DUE.says("6", "the line is the same");
        ScanDesk desk = Due.desk("a");
        Due.piece(desk, "\na");
        desk.skip(100);
        Due.piece(desk, "a");
        DUE.is("lines", Due.lines(desk), "2");
        Due.piece(desk, "\n");
        desk.skip(7);
        Due.piece(desk, "a");
        DUE.is("lines behind one more", Due.lines(desk), "2 3");
    }

    private static void skipRefusesBeforeBuilding() {
        DUE.says("6", "False when building is not done");
        ScanDesk desk = new ScanDesk(2000);
        Due.word(desk, "a");
        long[] counts = {0, 1, 1000, TOP};
        for (long n : counts) {
            DUE.refusesSkip(desk, n);
        }
        desk.build();
        DUE.is("skip(1) when built", desk.skip(1), true);
        DUE.is("place()", desk.place(), 1);
    }

    private static void skipRefusesBelowZero() {
        DUE.says("6", "or n is below 0");
        ScanDesk desk = inTheMiddle();
        long[] wrong = {-1, -2, -3, -4, -TOP, Long.MIN_VALUE, Long.MIN_VALUE + 1};
        for (long n : wrong) {
            DUE.refusesSkip(desk, n);
        }
        DUE.is("b, and the word is whole", Due.piece(desk, "b"), 1);
        DUE.is("end(1)", desk.end(1), 4);
    }

    private static ScanDesk inTheMiddle() {
        ScanDesk desk = Due.desk("ab");
        Due.piece(desk, "ab\na");
        desk.pick();
        return desk;
    }

    private static void skipGoesToTheTop() {
        DUE.says("6", "or the place would be above 2^62");
        ScanDesk desk = Due.desk("a");
        DUE.is("skip to the top", desk.skip(TOP), true);
        DUE.is("place()", desk.place(), TOP);
        DUE.is("skip(0) there", desk.skip(0), true);
        ScanDesk other = inTheMiddle();
        DUE.is("skip to the top from 4", other.skip(TOP - 4), true);
        DUE.is("place() from 4", other.place(), TOP);
        DUE.is("state() from 4", other.state(), 0);
    }

    private static void skipRefusesAboveTheTop() {
        DUE.says("6", "or the place would be above 2^62");
        ScanDesk desk = inTheMiddle();
        long[] wrong = {TOP - 3, TOP - 2, TOP, TOP + 1};
        for (long n : wrong) {
            DUE.refusesSkip(desk, n);
        }
        DUE.is("b, and the word is whole", Due.piece(desk, "b"), 1);
        ScanDesk other = Due.desk("a");
        DUE.refusesSkip(other, TOP + 1);
        other.skip(TOP);
        DUE.refusesSkip(other, 1);
    }

    private static void skipRefusesWhereTheSumWrapsAround() {
        DUE.says("6", "or the place would be above 2^62");
        ScanDesk desk = inTheMiddle();
        long[] wrong = {Long.MAX_VALUE, Long.MAX_VALUE - 1, Long.MAX_VALUE - 3, Long.MAX_VALUE - 4};
        for (long n : wrong) {
            DUE.refusesSkip(desk, n);
        }
        desk.skip(TOP - 4);
        DUE.refusesSkip(desk, TOP);
        DUE.refusesSkip(desk, Long.MAX_VALUE);
    }

    private static void skipRefusesWhenTextWentAboveTheTop() {
        DUE.says("6", "or the place would be above 2^62");
        ScanDesk desk = Due.desk("ab");
        desk.skip(TOP);
        Due.piece(desk, "a");
        DUE.refusesSkip(desk, 0);
        DUE.refusesSkip(desk, 1);
        DUE.is("b, and the word is whole", Due.piece(desk, "b"), 1);
    }

    private static void placeIsOfTheNextByte() {
        DUE.says("7", "The place of the next byte");
        ScanDesk desk = new ScanDesk(2000);
        Due.word(desk, "a");
        DUE.is("place() before building", desk.place(), 0);
        desk.build();
        DUE.is("place() before the text", desk.place(), 0);
        Due.piece(desk, "\n\n");
        DUE.is("place() behind two lines' ends", desk.place(), 2);
        Due.piece(desk, "a");
        DUE.is("end(0) is the place of before", desk.end(0), 2);
    }

    private static void placeGoesAboveTheTopByText() {
        DUE.says("7", "The place of the next byte");
        ScanDesk desk = Due.desk("ab");
        desk.skip(TOP - 1);
        DUE.is("abab", Due.piece(desk, "abab"), 2);
        DUE.is("place()", desk.place(), TOP + 3);
        DUE.is("end(0)", desk.end(0), TOP);
        DUE.is("end(1)", desk.end(1), TOP + 2);
        DUE.is("picked", Due.picked(desk), "0@" + TOP + " 0@" + (TOP + 2));
    }
}
