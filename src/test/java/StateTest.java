/** Promises 14 and 15: steps and state. */
public final class StateTest {
    private static final Due DUE = new Due("StateTest");

    public static void main(String[] args) {
        stateIsTheLongestPrefix();
        aByteIsOneStepAtLeast();
        everyFallIsAStep();
        aWholeWordIsAPrefix();
        withoutWords();
        DUE.finish();
    }

    private static void after(ScanDesk desk, String piece, int state, int steps) {
        Due.piece(desk, piece);
        DUE.is("state() behind " + piece, desk.state(), state);
        DUE.is("steps() behind " + piece, desk.steps(), steps);
    }

    private static void stateIsTheLongestPrefix() {
        ScanDesk desk = Due.desk("abcd", "bcx", "cy");
        after(desk, "a", 1, 1);
        after(desk, "b", 2, 2);
        after(desk, "c", 3, 3);
        after(desk, "x", 3, 5);
        after(desk, "abc", 3, 9);
        after(desk, "y", 2, 12);
        after(desk, "q", 0, 14);
    }

    private static void aByteIsOneStepAtLeast() {
        ScanDesk desk = Due.desk("zz");
        after(desk, "abc", 0, 3);
        after(desk, "", 0, 3);
        after(desk, "z", 1, 4);
        after(desk, "z", 2, 5);
    }

    /** From aaaa the falls go over aaa, aa and a to the empty one: four, and the byte's own step. */
    private static void everyFallIsAStep() {
        ScanDesk desk = Due.desk("aaaa");
        after(desk, "aaaa", 4, 4);
        after(desk, "a", 4, 6);
        after(desk, "b", 0, 11);
        after(desk, "b", 0, 12);
    }

    private static void aWholeWordIsAPrefix() {
        ScanDesk desk = Due.desk("abab", "ab");
        after(desk, "abab", 4, 4);
        after(desk, "a", 3, 6);
        after(desk, "b", 4, 7);
        desk.skip(3);
        after(desk, "", 0, 7);
        after(desk, "ab", 2, 9);
    }

    private static void withoutWords() {
        ScanDesk desk = Due.desk();
        after(desk, "ab\nc", 0, 4);
        DUE.is("place()", desk.place(), 4);
    }
}
