/** Promises 2 to 4: put, add and build. */
public final class WordsTest {
    private static final Due DUE = new Due("WordsTest");

    public static void main(String[] args) {
        putCountsBytes();
        addNumbersWords();
        buildIsDoneOnce();
        DUE.finish();
    }

    private static void putCountsBytes() {
        ScanDesk desk = new ScanDesk(50);
        DUE.is("put(0)", desk.put(0), 1);
        DUE.is("put(255)", desk.put(255), 2);
        DUE.is("put(9)", desk.put(9), 3);
        DUE.is("put(11)", desk.put(11), 4);
        DUE.is("add()", desk.add(), 0);
        DUE.is("put(7) of the next word", desk.put(7), 1);
    }

    private static void addNumbersWords() {
        ScanDesk desk = new ScanDesk(50);
        DUE.is("add() of nothing", desk.add(), -1);
        DUE.is("ab", Due.word(desk, "ab"), 0);
        DUE.is("add() of nothing again", desk.add(), -1);
        DUE.is("ab, the same", Due.word(desk, "ab"), 1);
        DUE.is("a", Due.word(desk, "a"), 2);
        DUE.is("count(2)", desk.count(2), 0);
        DUE.is("count(3)", desk.count(3), -1);
        DUE.is("build()", desk.build(), 3);
        DUE.is("add() when built", desk.add(), -1);
    }

    private static void buildIsDoneOnce() {
        ScanDesk desk = new ScanDesk(50);
        Due.word(desk, "he");
        Due.word(desk, "hers");
        Due.word(desk, "she");
        DUE.is("build()", desk.build(), 8);
        DUE.is("build() again", desk.build(), -1);
        DUE.is("build() once more", desk.build(), -1);
        DUE.is("text shers", Due.piece(desk, "shers"), 3);
        DUE.is("build() with a text", desk.build(), -1);
        DUE.is("found()", desk.found(), 3);
    }
}
