/** Promises 8 to 11: found, word, end and count; and the order of occurrences. */
public final class FoundTest {
    private static final Due DUE = new Due("FoundTest");

    public static void main(String[] args) {
        longerWordsComeFirst();
        noOccurrenceGoesOverALine();
        countsStandByWord();
        DUE.finish();
    }

    private static void longerWordsComeFirst() {
        ScanDesk desk = Due.desk("d", "abcd", "cd", "bcd", "bc", "abcde");
        DUE.is("abcd", Due.piece(desk, "abcd"), 5);
        DUE.is("found", Due.found(desk), "4@2 1@3 3@3 2@3 0@3");
        DUE.is("found()", desk.found(), 5);
        DUE.is("e", Due.piece(desk, "e"), 1);
        DUE.is("word(5)", desk.word(5), 5);
        DUE.is("end(5)", desk.end(5), 4);
    }

    private static void noOccurrenceGoesOverALine() {
        ScanDesk desk = Due.desk("ab", "b");
        DUE.is("a and b in two lines", Due.piece(desk, "a\nb"), 1);
        DUE.is("found", Due.found(desk), "1@2");
        DUE.is("place()", desk.place(), 3);
    }

    private static void countsStandByWord() {
        ScanDesk desk = new ScanDesk(20);
        DUE.is("count(0) of no word", desk.count(0), -1);
        Due.word(desk, "a");
        DUE.is("count(0) before build()", desk.count(0), 0);
        Due.word(desk, "aba");
        Due.word(desk, "c");
        Due.word(desk, "a");
        desk.build();
        DUE.is("count(0) before the text", desk.count(0), 0);
        Due.feed(desk, "ababa\naba");
        DUE.is("count(0)", desk.count(0), 5);
        DUE.is("count(1)", desk.count(1), 3);
        DUE.is("count(2)", desk.count(2), 0);
        DUE.is("count(3)", desk.count(3), 5);
        DUE.is("count(4)", desk.count(4), -1);
        DUE.is("found()", desk.found(), 13);
    }
}
