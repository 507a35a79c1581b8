/** The boundary cases of promises 8 to 15 and of the terms OCCURRENCE and STATE, each in its own test. */
public final class AnswerEdgesTest {
    private static final Due DUE = new Due("AnswerEdgesTest");
    private static final String FORTY = "a".repeat(40);

    public static void main(String[] args) {
        occurrencesComeByTheirEnds();
        longerWordsComeFirst();
        theLesserNumberComesFirst();
        occurrencesMayOverlap();

        theStateIsEmptyAtFirst();
        theStateIsEmptyBehindAByteTen();
        theStateIsTheLongestPrefix();
        theStateMayBeOfFortyBytes();
        aByteThatFitsIsOneStep();
        aByteWithTheStateEmptyIsOneStep();
        everyFallIsAStep();
        fallsEndAtAPrefixThatFits();
        aByteTenIsOneStep();

        foundIsNoneAtFirst();
        wordHasNoneBelowZero();
        wordHasNoneBehindTheLast();
        endHasNoneBelowZero();
        endHasNoneBehindTheLast();
        countHasNoneBelowZero();
        countHasNoneBehindTheLastWord();
        countOfAWordNotFoundIsZero();
        countHasNoneForRefusedWords();
        linesCountTheLastOneNotEnded();
        linesCountTheLastOneEnded();
        linesLeaveOutThoseWithoutOne();
        linesCountALineOnce();
        lineHasNoneBelowZero();
        lineHasNoneBehindTheLast();
        stepsAreNoneAtFirst();
        stateOfARefusedCallStays();
        DUE.finish();
    }

    private static void occurrencesComeByTheirEnds() {
        DUE.says("OCCURRENCE", "in the order of the places at which they end");
        ScanDesk desk = Due.desk("abcd", "bc", "a");
        Due.piece(desk, "abcd");
        DUE.is("found", Due.found(desk), "2@0 1@2 0@3");
    }

    private static void longerWordsComeFirst() {
        DUE.says("OCCURRENCE", "longer words first");
        ScanDesk desk = Due.desk("d", "abcd", "cd", "bcd");
        Due.piece(desk, "abcd");
        DUE.is("found", Due.found(desk), "1@3 3@3 2@3 0@3");
        ScanDesk ends = Due.desk("a", FORTY);
        Due.feed(ends, FORTY);
        DUE.is("word(39): of 40 bytes", ends.word(39), 1);
        DUE.is("word(40): of 1 byte", ends.word(40), 0);
    }

    private static void theLesserNumberComesFirst() {
        DUE.says("OCCURRENCE", "of the same length the lesser number");
        ScanDesk desk = Due.desk("b", "ab", "b", "ab", "b");
        Due.piece(desk, "ab");
        DUE.is("found", Due.found(desk), "1@1 3@1 0@1 2@1 4@1");
    }

    private static void occurrencesMayOverlap() {
        DUE.says("OCCURRENCE", "the bytes up to that place, and that one, are the word");
        ScanDesk desk = Due.desk("aa", "aaa");
        DUE.is("aaaa", Due.piece(desk, "aaaa"), 5);
        DUE.is("found", Due.found(desk), "0@1 1@2 0@2 1@3 0@3");
    }

    private static void theStateIsEmptyAtFirst() {
        DUE.says("STATE", "at first the empty one");
        ScanDesk desk = new ScanDesk(2000);
        DUE.is("state() of a new object", desk.state(), 0);
        desk.put('a');
        DUE.is("state() with a byte put", desk.state(), 0);
        desk.add();
        desk.build();
        DUE.is("state() when built", desk.state(), 0);
    }

    private static void theStateIsEmptyBehindAByteTen() {
        DUE.says("STATE", "behind a byte 10 ... the empty one");
        ScanDesk desk = Due.desk("ab", "b");
        Due.piece(desk, "a\n");
        DUE.is("state()", desk.state(), 0);
        DUE.is("b", Due.piece(desk, "b"), 1);
        DUE.is("found", Due.found(desk), "1@2");
    }

    private static void theStateIsTheLongestPrefix() {
        DUE.says("STATE", "the longest prefix with which the text so far ends");
        ScanDesk desk = Due.desk("abcd", "bcx", "cy");
        Due.piece(desk, "abc");
        DUE.is("state() behind abc", desk.state(), 3);
        Due.piece(desk, "x");
        DUE.is("state() behind abcx", desk.state(), 3);
        Due.piece(desk, "y");
        DUE.is("state() behind abcxy", desk.state(), 0);
    }

    private static void theStateMayBeOfFortyBytes() {
        DUE.says("STATE", "the longest prefix with which the text so far ends");
        ScanDesk desk = Due.desk(FORTY);
        Due.feed(desk, FORTY);
        DUE.is("state() behind forty", desk.state(), 40);
        Due.feed(desk, "a");
        DUE.is("state() behind one more", desk.state(), 40);
        Due.feed(desk, "b");
        DUE.is("state() behind another byte", desk.state(), 0);
    }

    private static void steps(ScanDesk desk, String piece, int steps) {
        long before = desk.steps();
        Due.feed(desk, piece);
        DUE.is("steps for " + piece, desk.steps() - before, steps);
    }

    private static void aByteThatFitsIsOneStep() {
        DUE.says("STATE", "When a byte comes, a STEP is done for it");
        ScanDesk desk = Due.desk(FORTY);
        steps(desk, FORTY, 40);
    }

    private static void aByteWithTheStateEmptyIsOneStep() {
        DUE.says("STATE", "and the state is not empty");
        ScanDesk desk = Due.desk("zz");
        steps(desk, "a", 1);
        steps(desk, "bcd", 3);
        steps(Due.desk(), "abc", 3);
    }

    private static void everyFallIsAStep() {
        DUE.says("STATE", "a STEP each");
        ScanDesk desk = Due.desk(FORTY);
        Due.feed(desk, FORTY);
        steps(desk, "b", 41);
        steps(desk, "b", 1);
        steps(desk, "ab", 3);
    }

    private static void fallsEndAtAPrefixThatFits() {
        DUE.says("STATE", "as long as the state with the byte behind it is no prefix");
        ScanDesk desk = Due.desk("abcabd", "abe");
        Due.piece(desk, "abcab");
        steps(desk, "e", 2);
        DUE.is("state()", desk.state(), 3);
        Due.piece(desk, "aabcab");
        steps(desk, "c", 2);
        DUE.is("state() behind abc", desk.state(), 3);
    }

    private static void aByteTenIsOneStep() {
        DUE.says("STATE", "A byte 10 makes it empty, and is one step");
        ScanDesk desk = Due.desk(FORTY);
        Due.feed(desk, FORTY);
        steps(desk, "\n", 1);
        DUE.is("state()", desk.state(), 0);
        steps(desk, "\n\n", 2);
        DUE.is("state() behind more", desk.state(), 0);
    }

    private static void foundIsNoneAtFirst() {
        DUE.says("8", "How many occurrences there were");
        ScanDesk desk = new ScanDesk(2000);
        DUE.is("found() of a new object", desk.found(), 0);
        Due.word(desk, "a");
        desk.build();
        DUE.is("found() when built", desk.found(), 0);
        Due.piece(desk, "b");
        DUE.is("found() behind b", desk.found(), 0);
        Due.piece(desk, "a");
        DUE.is("found() behind a", desk.found(), 1);
    }

    private static final int[] BELOW = {-1, -2, -32, Integer.MIN_VALUE};

    /** Three words, 17 occurrences and four lines that have some: each row has an end of its own. */
    private static ScanDesk threeWords() {
        ScanDesk desk = Due.desk("b", "a", "a");
        Due.piece(desk, "aaaa\n\naaa\nb\na");
        return desk;
    }

    private static void wordHasNoneBelowZero() {
        DUE.says("9", "NONE when there is none such");
        ScanDesk desk = threeWords();
        for (int k : BELOW) {
            DUE.is("word(" + k + ")", desk.word(k), -1);
        }
        DUE.is("word(0)", desk.word(0), 1);
    }

    private static void wordHasNoneBehindTheLast() {
        DUE.says("9", "NONE when there is none such");
        DUE.is("word(0) of a new object", new ScanDesk(2000).word(0), -1);
        ScanDesk desk = threeWords();
        DUE.is("found()", desk.found(), 17);
        DUE.is("word(16)", desk.word(16), 2);
        int[] behind = {17, 18, 31, 32, 4200, Integer.MAX_VALUE};
        for (int k : behind) {
            DUE.is("word(" + k + ")", desk.word(k), -1);
        }
    }

    private static void endHasNoneBelowZero() {
        DUE.says("10", "NONE when there is none such");
        ScanDesk desk = threeWords();
        for (int k : BELOW) {
            DUE.is("end(" + k + ")", desk.end(k), -1);
        }
        DUE.is("end(0)", desk.end(0), 0);
    }

    private static void endHasNoneBehindTheLast() {
        DUE.says("10", "NONE when there is none such");
        DUE.is("end(0) of a new object", new ScanDesk(2000).end(0), -1);
        ScanDesk desk = threeWords();
        DUE.is("end(16)", desk.end(16), 12);
        int[] behind = {17, 18, 31, 32, 4200, Integer.MAX_VALUE};
        for (int k : behind) {
            DUE.is("end(" + k + ")", desk.end(k), -1);
        }
    }

    private static void countHasNoneBelowZero() {
        DUE.says("11", "NONE when there is no such word");
        ScanDesk desk = threeWords();
        for (int k : BELOW) {
            DUE.is("count(" + k + ")", desk.count(k), -1);
        }
        DUE.is("count(0)", desk.count(0), 1);
    }

    private static void countHasNoneBehindTheLastWord() {
        DUE.says("11", "NONE when there is no such word");
        DUE.is("count(0) of a new object", new ScanDesk(2000).count(0), -1);
        ScanDesk desk = threeWords();
        DUE.is("count(2)", desk.count(2), 8);
        int[] behind = {3, 4, 59, 60, 61, Integer.MAX_VALUE};
        for (int k : behind) {
            DUE.is("count(" + k + ")", desk.count(k), -1);
        }
    }

    private static void countOfAWordNotFoundIsZero() {
        DUE.says("11", "How many occurrences of a word there were");
        ScanDesk desk = new ScanDesk(2000);
        Due.word(desk, "ab");
        DUE.is("count(0) before building", desk.count(0), 0);
        desk.build();
        DUE.is("count(0) when built", desk.count(0), 0);
        Due.piece(desk, "ba");
        DUE.is("count(0) behind ba", desk.count(0), 0);
        Due.piece(desk, "b");
        DUE.is("count(0) behind bab", desk.count(0), 1);
    }

    private static void countHasNoneForRefusedWords() {
        DUE.says("11", "NONE when there is no such word");
        ScanDesk desk = new ScanDesk(2);
        Due.word(desk, "a");
        Due.word(desk, "b");
        desk.put('a');
        DUE.is("count(1) of a word not added", desk.count(1), -1);
        desk.build();
        Due.piece(desk, "ba");
        DUE.is("count(1) when built", desk.count(1), -1);
    }

    private static void linesCountTheLastOneNotEnded() {
        DUE.says("12", "the last one, too, ended or not");
        ScanDesk desk = Due.desk("a");
        DUE.is("lines() at first", desk.lines(), 0);
        Due.piece(desk, "a");
        DUE.is("lines() in line 1", desk.lines(), 1);
        Due.piece(desk, "\na");
        DUE.is("lines() in line 2", desk.lines(), 2);
    }

    private static void linesCountTheLastOneEnded() {
        DUE.says("12", "the last one, too, ended or not");
        ScanDesk desk = Due.desk("a");
        Due.piece(desk, "a\n");
        DUE.is("lines() behind line 1", desk.lines(), 1);
        Due.piece(desk, "a\n");
        DUE.is("lines() behind line 2", desk.lines(), 2);
    }

    private static void linesLeaveOutThoseWithoutOne() {
        DUE.says("12", "have an occurrence");
        ScanDesk desk = Due.desk("a");
        Due.piece(desk, "x\n\na\nx\n\nx");
        DUE.is("lines()", desk.lines(), 1);
        DUE.is("line(0)", desk.line(0), 3);
    }

    private static void linesCountALineOnce() {
        DUE.says("12", "How many lines");
        ScanDesk desk = Due.desk("a", "a");
        Due.piece(desk, "aa");
        Due.piece(desk, "xa");
        desk.skip(5);
        Due.piece(desk, "a");
        DUE.is("found()", desk.found(), 8);
        DUE.is("lines()", desk.lines(), 1);
    }

    private static void lineHasNoneBelowZero() {
        DUE.says("13", "NONE when there is none such");
        ScanDesk desk = threeWords();
        for (int k : BELOW) {
            DUE.is("line(" + k + ")", desk.line(k), -1);
        }
        DUE.is("line(0)", desk.line(0), 1);
    }

    private static void lineHasNoneBehindTheLast() {
        DUE.says("13", "NONE when there is none such");
        DUE.is("line(0) of a new object", new ScanDesk(2000).line(0), -1);
        ScanDesk desk = threeWords();
        DUE.is("lines()", desk.lines(), 4);
        DUE.is("line(3)", desk.line(3), 5);
        int[] behind = {4, 5, 15, 16, 17, Integer.MAX_VALUE};
        for (int k : behind) {
            DUE.is("line(" + k + ")", desk.line(k), -1);
        }
    }

    private static void stepsAreNoneAtFirst() {
        DUE.says("14", "How many steps there were");
        ScanDesk desk = new ScanDesk(2000);
        DUE.is("steps() of a new object", desk.steps(), 0);
        Due.word(desk, "aab");
        desk.build();
        DUE.is("steps() when built", desk.steps(), 0);
        Due.piece(desk, "");
        desk.skip(10);
        DUE.is("steps() behind a skip", desk.steps(), 0);
        Due.piece(desk, "a");
        DUE.is("steps() behind a byte", desk.steps(), 1);
    }

    private static void stateOfARefusedCallStays() {
        DUE.says("15", "How long the state is");
        ScanDesk desk = Due.desk("abc");
        Due.piece(desk, "ab");
        desk.text(0x0a0a0a0a, 0, 0, 0, 0, 21);
        DUE.is("state() behind a refused text", desk.state(), 2);
        desk.skip(-1);
        DUE.is("state() behind a refused skip", desk.state(), 2);
        desk.build();
        DUE.is("state() behind a refused build", desk.state(), 2);
        Due.piece(desk, "");
        DUE.is("state() behind a text of 0", desk.state(), 2);
    }
}
