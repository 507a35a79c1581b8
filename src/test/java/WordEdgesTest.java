/** The boundary cases of promises 1 to 4 and of the terms WORDS and PREFIX, each in its own test. */
public final class WordEdgesTest {
    private static final Due DUE = new Due("WordEdgesTest");

    public static void main(String[] args) {
        aWordHasOneToFortyBytes();
        aWordHasAnyByteButTen();
        wordsAreNumberedFromZero();
        twoWordsMayBeTheSame();
        twoWordsOfFortyBytesMayBeTheSame();
        wholeWordsArePrefixes();
        theEmptyPrefixIsOne();

        aNewObjectHasNoWords();
        roomCountsTheEmptyPrefix();
        roomBelowOneIsOne();
        roomAboveTwoThousandHoldsAWholeRun();
        roomAboveTwoThousandIsTwoThousand();

        putRefusesMoreThanForty();
        putRefusesBelowZero();
        putRefusesAbove255();
        putRefusesTen();
        putRefusesWhenBuilt();

        addEmptiesTheNextWord();
        addRefusesAWordWithoutAByte();
        addRefusesMoreThanSixtyWords();
        addRefusesMorePrefixesThanRoom();
        addCountsAPrefixOfTwoWordsOnce();
        addInAFullRoomTakesOldPrefixes();
        addRefusedForTheRoomLeavesNoPrefix();
        addRefusedForTheRoomEmptiesTheNextWord();
        addRefusedForSixtyWordsEmptiesTheNextWord();
        addRefusedForBuildingIsNoneAlone();

        buildWithoutWordsHasOnePrefix();
        buildLeavesOutTheNextWord();
        buildRefusesASecondTime();
        DUE.finish();
    }

    private static void aWordHasOneToFortyBytes() {
        DUE.says("WORDS", "rows of 1 to 40 bytes");
        ScanDesk desk = new ScanDesk(2000);
        DUE.is("one byte", Due.word(desk, "a"), 0);
        DUE.is("forty bytes", Due.word(desk, "b".repeat(40)), 1);
        desk.build();
        Due.feed(desk, "a" + "b".repeat(41));
        DUE.is("found", Due.found(desk), "0@0 1@40 1@41");
    }

    private static void aWordHasAnyByteButTen() {
        DUE.says("WORDS", "0 .. 255, but 10");
        for (int b = 0; b < 256; b++) {
            ScanDesk desk = new ScanDesk(2);
            boolean fit = b != 10;
            DUE.is("put(" + b + ")", desk.put(b), fit ? 1 : -1);
            DUE.is("add() of " + b, desk.add(), fit ? 0 : -1);
            desk.build();
            DUE.is("text of " + b, desk.text(b << 24, 0, 0, 0, 0, 1), fit ? 1 : 0);
        }
    }

    private static void wordsAreNumberedFromZero() {
        DUE.says("WORDS", "numbered from 0");
        ScanDesk desk = new ScanDesk(2000);
        DUE.is("add() of the first", Due.word(desk, "a"), 0);
        DUE.is("add() of nothing between", desk.add(), -1);
        DUE.is("add() of the second", Due.word(desk, "b"), 1);
    }

    private static void twoWordsMayBeTheSame() {
        DUE.says("WORDS", "two may be the same");
        ScanDesk desk = new ScanDesk(2000);
        DUE.is("ab", Due.word(desk, "ab"), 0);
        DUE.is("ab again", Due.word(desk, "ab"), 1);
        DUE.is("build()", desk.build(), 3);
        DUE.is("text ab", Due.piece(desk, "ab"), 2);
        DUE.is("found", Due.found(desk), "0@1 1@1");
    }

    private static void twoWordsOfFortyBytesMayBeTheSame() {
        DUE.says("WORDS", "two may be the same");
        String forty = "ab".repeat(20);
        ScanDesk desk = new ScanDesk(41);
        DUE.is("forty bytes", Due.word(desk, forty), 0);
        DUE.is("forty bytes again", Due.word(desk, forty), 1);
        DUE.is("build()", desk.build(), 41);
        DUE.is("text of them", Due.feed(desk, forty), 2);
        DUE.is("found", Due.found(desk), "0@39 1@39");
    }

    private static void wholeWordsArePrefixes() {
        DUE.says("PREFIX", "whole ones, and the empty one, too");
        ScanDesk desk = Due.desk("abc");
        Due.piece(desk, "abc");
        DUE.is("state() behind a whole word", desk.state(), 3);
    }

    private static void theEmptyPrefixIsOne() {
        DUE.says("PREFIX", "whole ones, and the empty one, too");
        ScanDesk desk = new ScanDesk(2000);
        Due.word(desk, "abc");
        DUE.is("build()", desk.build(), 4);
    }

    private static void aNewObjectHasNoWords() {
        DUE.says("1", "No words");
        ScanDesk desk = new ScanDesk(2000);
        DUE.is("count(0)", desk.count(0), -1);
        DUE.is("build()", desk.build(), 1);
        DUE.is("text", Due.piece(desk, "abc"), 0);
        DUE.is("count(0) behind it", desk.count(0), -1);
    }

    private static void roomCountsTheEmptyPrefix() {
        DUE.says("1", "for so many prefixes, the empty one counted");
        for (int room = 2; room <= 40; room++) {
            ScanDesk desk = new ScanDesk(room);
            DUE.is(room + " bytes in a room of " + room, Due.word(desk, "a".repeat(room)), -1);
            DUE.is(room - 1 + " bytes in a room of " + room, Due.word(desk, "a".repeat(room - 1)), 0);
            DUE.is("build() in a room of " + room, desk.build(), room);
        }
    }

    private static void roomBelowOneIsOne() {
        DUE.says("1", "below 1 it is 1");
        int[] rooms = {1, 0, -1, -2000, Integer.MIN_VALUE};
        for (int room : rooms) {
            ScanDesk desk = new ScanDesk(room);
            DUE.is("a in a room of " + room, Due.word(desk, "a"), -1);
            DUE.is("build() in a room of " + room, desk.build(), 1);
            DUE.is("text in a room of " + room, Due.piece(desk, "a"), 0);
        }
    }

    /** 511 calls, with the most prefixes that they can make. */
    private static void roomAboveTwoThousandHoldsAWholeRun() {
        DUE.says("1", "above 2000 it is 2000");
        int[] rooms = {498, 2000, 2001, Integer.MAX_VALUE};
        for (int room : rooms) {
            ScanDesk desk = new ScanDesk(room);
            for (int w = 0; w < 12; w++) {
                DUE.is("word " + w + " of 40", Due.word(desk, (char) (200 + w) + "x".repeat(39)), w);
            }
            DUE.is("a word of 17", Due.word(desk, "y".repeat(17)), 12);
            DUE.is("build() in a room of " + room, desk.build(), 498);
        }
    }

    /** The one test of more than 512 calls, as no shorter run has so many prefixes. */
    private static void roomAboveTwoThousandIsTwoThousand() {
        DUE.says("1", "above 2000 it is 2000");
        int[] rooms = {1999, 2000, 2001, 4000, Integer.MAX_VALUE};
        for (int room : rooms) {
            ScanDesk desk = new ScanDesk(room);
            for (int w = 0; w < 49; w++) {
                DUE.is("word " + w + " of 40", Due.word(desk, (char) (200 + w) + "x".repeat(39)), w);
            }
            int fit = room == 1999 ? 38 : 39;
            DUE.is("one too long for " + room, Due.word(desk, "y".repeat(fit + 1)), -1);
            DUE.is("one that fits in " + room, Due.word(desk, "y".repeat(fit)), 49);
            DUE.is("build() in a room of " + room, desk.build(), room == 1999 ? 1999 : 2000);
        }
    }

    private static void putRefusesMoreThanForty() {
        DUE.says("2", "NONE when it has 40");
        ScanDesk desk = new ScanDesk(2000);
        for (int i = 1; i <= 40; i++) {
            DUE.is("put " + i, desk.put('a'), i);
        }
        DUE.is("put 41", desk.put('a'), -1);
        DUE.is("put 42", desk.put('b'), -1);
        DUE.is("add()", desk.add(), 0);
        DUE.is("put of the next word", desk.put('c'), 1);
        DUE.is("build()", desk.build(), 41);
        DUE.is("39 bytes", Due.feed(desk, "a".repeat(39)), 0);
        DUE.is("the 40th", Due.feed(desk, "a"), 1);
    }

    private static void putRefusesBelowZero() {
        DUE.says("2", "or b is not 0 .. 255");
        int[] wrong = {-1, -2, -159, -256, Integer.MIN_VALUE, Integer.MIN_VALUE + 'a'};
        refusesAmongGoodBytes(wrong, 0);
    }

    private static void putRefusesAbove255() {
        DUE.says("2", "or b is not 0 .. 255");
        int[] wrong = {256, 257, 266, 256 + 'a', 65536, Integer.MAX_VALUE};
        refusesAmongGoodBytes(wrong, 255);
    }

    private static void putRefusesTen() {
        DUE.says("2", "or 10");
        int[] wrong = {10};
        refusesAmongGoodBytes(wrong, 9);
        refusesAmongGoodBytes(wrong, 11);
    }

    /** The wrong bytes are no part of the word, which goes on behind them as if they had not come. */
    private static void refusesAmongGoodBytes(int[] wrong, int good) {
        ScanDesk desk = new ScanDesk(2000);
        DUE.is("put(" + good + ")", desk.put(good), 1);
        for (int b : wrong) {
            DUE.is("put(" + b + ")", desk.put(b), -1);
        }
        DUE.is("put(120) behind the wrong ones", desk.put('x'), 2);
        DUE.is("add()", desk.add(), 0);
        DUE.is("build()", desk.build(), 3);
        DUE.is("text of both bytes", Due.piece(desk, (char) good + "x"), 1);
    }

    private static void putRefusesWhenBuilt() {
        DUE.says("2", "or building is done");
        ScanDesk desk = new ScanDesk(2000);
        desk.put('a');
        desk.build();
        DUE.refuses(desk, "put(97)", () -> desk.put('a'));
        Due.piece(desk, "a");
        DUE.refuses(desk, "put(97) behind a text", () -> desk.put('a'));
    }

    private static void addEmptiesTheNextWord() {
        DUE.says("3", "and the next one is empty");
        ScanDesk desk = new ScanDesk(2000);
        DUE.is("abc", Due.word(desk, "abc"), 0);
        DUE.is("put(100)", desk.put('d'), 1);
        DUE.is("add() of d", desk.add(), 1);
        DUE.is("build()", desk.build(), 5);
        DUE.is("text d", Due.piece(desk, "d"), 1);
    }

    private static void addRefusesAWordWithoutAByte() {
        DUE.says("3", "NONE ... when it has no byte");
        ScanDesk desk = new ScanDesk(2000);
        DUE.refuses(desk, "add() at first", desk::add);
        DUE.is("a", Due.word(desk, "a"), 0);
        DUE.refuses(desk, "add() behind an added one", desk::add);
        desk.put(10);
        desk.put(-1);
        desk.put(256);
        DUE.refuses(desk, "add() behind refused bytes", desk::add);
        DUE.is("b", Due.word(desk, "b"), 1);
    }

    private static void addRefusesMoreThanSixtyWords() {
        DUE.says("3", "or there are 60 words");
        ScanDesk desk = new ScanDesk(2000);
        for (int w = 0; w < 60; w++) {
            DUE.is("word " + w, Due.word(desk, "ab"), w);
        }
        DUE.is("one more, with no prefix more", Due.word(desk, "ab"), -1);
        DUE.is("one more, with prefixes more", Due.word(desk, "cde"), -1);
        DUE.is("one more, of no byte", desk.add(), -1);
        DUE.is("count(59)", desk.count(59), 0);
        DUE.is("count(60)", desk.count(60), -1);
        DUE.is("build()", desk.build(), 3);
        DUE.is("text cdeab", Due.piece(desk, "cdeab"), 60);
    }

    private static void addRefusesMorePrefixesThanRoom() {
        DUE.says("3", "or there would be more prefixes (of all words) than room");
        ScanDesk desk = new ScanDesk(7);
        DUE.is("abc: 4 prefixes", Due.word(desk, "abc"), 0);
        DUE.is("wxyz: 8 prefixes", Due.word(desk, "wxyz"), -1);
        DUE.is("xyz: 7 prefixes", Due.word(desk, "xyz"), 1);
        DUE.is("z: 8 prefixes", Due.word(desk, "z"), -1);
        DUE.is("abcd: 8 prefixes", Due.word(desk, "abcd"), -1);
        DUE.is("count(2)", desk.count(2), -1);
        DUE.is("build()", desk.build(), 7);
    }

    private static void addCountsAPrefixOfTwoWordsOnce() {
        DUE.says("3", "more prefixes (of all words) than room");
        ScanDesk desk = new ScanDesk(7);
        DUE.is("abcd: 5 prefixes", Due.word(desk, "abcd"), 0);
        DUE.is("abxyz: 8 prefixes", Due.word(desk, "abxyz"), -1);
        DUE.is("abxy: 7 prefixes", Due.word(desk, "abxy"), 1);
        DUE.is("build()", desk.build(), 7);
    }

    private static void addInAFullRoomTakesOldPrefixes() {
        DUE.says("3", "more prefixes (of all words) than room");
        ScanDesk desk = new ScanDesk(4);
        DUE.is("abc, and the room is full", Due.word(desk, "abc"), 0);
        DUE.is("b", Due.word(desk, "b"), -1);
        DUE.is("ab", Due.word(desk, "ab"), 1);
        DUE.is("a", Due.word(desk, "a"), 2);
        DUE.is("abc again", Due.word(desk, "abc"), 3);
        DUE.is("build()", desk.build(), 4);
        DUE.is("text abc", Due.piece(desk, "abc"), 4);
    }

    private static void addRefusedForTheRoomLeavesNoPrefix() {
        DUE.says("3", "more prefixes (of all words) than room");
        ScanDesk desk = new ScanDesk(4);
        DUE.is("pqrs", Due.word(desk, "pqrs"), -1);
        DUE.is("xyz", Due.word(desk, "xyz"), 0);
        DUE.is("xyp", Due.word(desk, "xyp"), -1);
        DUE.is("build()", desk.build(), 4);
        Due.piece(desk, "pq");
        DUE.is("state() behind pq", desk.state(), 0);
        Due.piece(desk, "xyp");
        DUE.is("state() behind xyp", desk.state(), 0);
        DUE.is("found()", desk.found(), 0);
    }

    private static void addRefusedForTheRoomEmptiesTheNextWord() {
        DUE.says("3", "NONE, and it is empty then, too");
        ScanDesk desk = new ScanDesk(3);
        DUE.is("xyz", Due.word(desk, "xyz"), -1);
        DUE.is("add() right behind", desk.add(), -1);
        DUE.is("put(97)", desk.put('a'), 1);
        DUE.is("add() of a", desk.add(), 0);
        DUE.is("build()", desk.build(), 2);
        DUE.is("text xyza", Due.piece(desk, "xyza"), 1);
    }

    private static void addRefusedForSixtyWordsEmptiesTheNextWord() {
        DUE.says("3", "NONE, and it is empty then, too");
        ScanDesk desk = new ScanDesk(2000);
        for (int w = 0; w < 60; w++) {
            Due.word(desk, "a");
        }
        DUE.is("abc", Due.word(desk, "abc"), -1);
        DUE.is("put(100)", desk.put('d'), 1);
    }

    private static void addRefusedForBuildingIsNoneAlone() {
        DUE.says("3", "Building being done: NONE alone");
        ScanDesk desk = new ScanDesk(2000);
        Due.word(desk, "a");
        desk.put('b');
        desk.build();
        DUE.refuses(desk, "add()", desk::add);
        Due.piece(desk, "ab");
        desk.pick();
        DUE.refuses(desk, "add() behind a text", desk::add);
        DUE.is("text ab", Due.piece(desk, "ab"), 1);
    }

    private static void buildWithoutWordsHasOnePrefix() {
        DUE.says("4", "how many prefixes there are");
        ScanDesk desk = new ScanDesk(2000);
        DUE.is("build()", desk.build(), 1);
    }

    private static void buildLeavesOutTheNextWord() {
        DUE.says("4", "how many prefixes there are");
        ScanDesk desk = new ScanDesk(2000);
        Due.word(desk, "a");
        desk.put('b');
        desk.put('c');
        DUE.is("build()", desk.build(), 2);
        DUE.is("text bca", Due.piece(desk, "bca"), 1);
        DUE.is("count(1)", desk.count(1), -1);
    }

    private static void buildRefusesASecondTime() {
        DUE.says("4", "NONE when it was done before");
        ScanDesk desk = new ScanDesk(2000);
        Due.word(desk, "he");
        Due.word(desk, "she");
        DUE.is("build()", desk.build(), 6);
        DUE.refuses(desk, "build() again", desk::build);
        DUE.is("text sh", Due.piece(desk, "sh"), 0);
        desk.pick();
        DUE.refuses(desk, "build() in the middle of a word", desk::build);
        DUE.is("text e", Due.piece(desk, "e"), 2);
    }
}
