/** Promises 2 to 4: put, add and build. */
public final class WordsTest {
    private static final Due DUE = new Due("WordsTest");

    public static void main(String[] args) {
        putCountsBytes();
        putRefusesWrongBytes();
        putTakesForty();
        addNumbersWords();
        addRefusedEmptiesTheNextWord();
        addTakesSixtyWords();
        addCountsNewPrefixesAlone();
        addRefusedLeavesNoPrefix();
        buildIsDoneOnce();
        buildLeavesOutTheNextWord();
        everyByteCanStandInAWord();
        DUE.finish();
    }

    private static void putCountsBytes() {
        ScanDesk desk = new ScanDesk(50);
        DUE.is("put(0)", desk.put(0), 1);
        DUE.is("put(255)", desk.put(255), 2);
        DUE.is("put(9)", desk.put(9), 3);
        DUE.is("put(11)", desk.put(11), 4);
        DUE.is("add()", desk.add(), 0);
        DUE.is("put(7) of the next word", desk.put(7), 1);
    }

    private static void putRefusesWrongBytes() {
        ScanDesk desk = new ScanDesk(50);
        desk.put('a');
        int[] wrong = {10, -1, 256, 266, -246, Integer.MIN_VALUE, Integer.MAX_VALUE};
        for (int b : wrong) {
            DUE.is("put(" + b + ")", desk.put(b), -1);
        }
        DUE.is("put(98) behind the wrong ones", desk.put('b'), 2);
        desk.add();
        DUE.is("build()", desk.build(), 3);
        DUE.is("put(97) when built", desk.put('a'), -1);
        DUE.is("text ab", Due.piece(desk, "ab"), 1);
    }

    private static void putTakesForty() {
        ScanDesk desk = new ScanDesk(50);
        for (int i = 1; i <= 40; i++) {
            DUE.is("put " + i, desk.put('a'), i);
        }
        DUE.is("put 41", desk.put('a'), -1);
        DUE.is("put 42", desk.put('b'), -1);
        DUE.is("add()", desk.add(), 0);
        DUE.is("build()", desk.build(), 41);
        DUE.is("39 bytes", Due.feed(desk, "a".repeat(39)), 0);
        DUE.is("the 40th", Due.feed(desk, "a"), 1);
    }

    private static void addNumbersWords() {
        ScanDesk desk = new ScanDesk(50);
        DUE.is("add() of nothing", desk.add(), -1);
        DUE.is("ab", Due.word(desk, "ab"), 0);
        DUE.is("add() of nothing again", desk.add(), -1);
        DUE.is("ab, the same", Due.word(desk, "ab"), 1);
        DUE.is("a", Due.word(desk, "a"), 2);
        DUE.is("count(2)", desk.count(2), 0);
        DUE.is("count(3)", desk.count(3), -1);
        DUE.is("build()", desk.build(), 3);
        DUE.is("add() when built", desk.add(), -1);
    }

    private static void addRefusedEmptiesTheNextWord() {
        ScanDesk desk = new ScanDesk(3);
        DUE.is("xyz in a room of 3", Due.word(desk, "xyz"), -1);
        DUE.is("add() right behind", desk.add(), -1);
        DUE.is("put(97)", desk.put('a'), 1);
        DUE.is("add()", desk.add(), 0);
        DUE.is("build()", desk.build(), 2);
        DUE.is("text xyza", Due.piece(desk, "xyza"), 1);
    }

    private static void addTakesSixtyWords() {
        ScanDesk desk = new ScanDesk(2000);
        for (int w = 0; w < 60; w++) {
            DUE.is("word " + w, Due.word(desk, "ab"), w);
        }
        DUE.is("word 60, an old one", Due.word(desk, "ab"), -1);
        DUE.is("put(97) behind it", desk.put('a'), 1);
        DUE.is("word 60, a shorter one", desk.add(), -1);
        DUE.is("count(59)", desk.count(59), 0);
        DUE.is("count(60)", desk.count(60), -1);
        DUE.is("build()", desk.build(), 3);
        DUE.is("text ab", Due.piece(desk, "ab"), 60);
    }

    private static void addCountsNewPrefixesAlone() {
        ScanDesk desk = new ScanDesk(7);
        DUE.is("abcd", Due.word(desk, "abcd"), 0);
        DUE.is("abxyz, 3 more", Due.word(desk, "abxyz"), -1);
        DUE.is("abxy, 2 more", Due.word(desk, "abxy"), 1);
        DUE.is("abx, none more", Due.word(desk, "abx"), 2);
        DUE.is("b, 1 more", Due.word(desk, "b"), -1);
        DUE.is("build()", desk.build(), 7);
    }

    private static void addRefusedLeavesNoPrefix() {
        ScanDesk desk = new ScanDesk(4);
        DUE.is("pqrs", Due.word(desk, "pqrs"), -1);
        DUE.is("xyz", Due.word(desk, "xyz"), 0);
        DUE.is("build()", desk.build(), 4);
        DUE.is("text pq", Due.piece(desk, "pq"), 0);
        DUE.is("state()", desk.state(), 0);
    }

    private static void buildIsDoneOnce() {
        ScanDesk desk = new ScanDesk(50);
        Due.word(desk, "he");
        Due.word(desk, "hers");
        Due.word(desk, "she");
        DUE.is("build()", desk.build(), 8);
        DUE.is("build() again", desk.build(), -1);
        DUE.is("build() once more", desk.build(), -1);
        DUE.is("text shers", Due.piece(desk, "shers"), 3);
        DUE.is("build() with a text", desk.build(), -1);
        DUE.is("found()", desk.found(), 3);
    }

    private static void buildLeavesOutTheNextWord() {
        ScanDesk desk = new ScanDesk(50);
        Due.word(desk, "a");
        desk.put('b');
        desk.put('c');
        DUE.is("build()", desk.build(), 2);
        DUE.is("add() when built", desk.add(), -1);
        DUE.is("text bca", Due.piece(desk, "bca"), 1);
        DUE.is("count(1)", desk.count(1), -1);
    }

    private static void everyByteCanStandInAWord() {
        for (int b = 0; b < 256; b++) {
            ScanDesk desk = new ScanDesk(2);
            DUE.is("put(" + b + ")", desk.put(b), b == 10 ? -1 : 1);
            DUE.is("add() of " + b, desk.add(), b == 10 ? -1 : 0);
            desk.build();
            DUE.is("text of " + b, desk.text(b << 24, 0, 0, 0, 0, 1), b == 10 ? 0 : 1);
        }
    }
}
