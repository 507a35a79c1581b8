/** Promises 5 to 7: text, skip and place. */
public final class TextTest {
    private static final Due DUE = new Due("TextTest");

    public static void main(String[] args) {
        textGoesOnOverCalls();
        skipLeavesBytesOut();
        DUE.finish();
    }

    private static void textGoesOnOverCalls() {
        ScanDesk desk = Due.desk("abcab", "ca");
        DUE.is("abc", Due.piece(desk, "abc"), 0);
        DUE.is("nothing", Due.piece(desk, ""), 0);
        DUE.is("a", Due.piece(desk, "a"), 1);
        DUE.is("bca", Due.piece(desk, "bca"), 2);
        DUE.is("found", Due.found(desk), "1@3 0@4 1@6");
    }

    private static void skipLeavesBytesOut() {
        ScanDesk desk = Due.desk("ab", "b");
        Due.piece(desk, "\nba");
        DUE.is("state()", desk.state(), 1);
        DUE.is("skip(1000)", desk.skip(1000), true);
        DUE.is("state() behind", desk.state(), 0);
        DUE.is("place()", desk.place(), 1003);
        DUE.is("steps()", desk.steps(), 4);
        DUE.is("b", Due.piece(desk, "b"), 1);
        DUE.is("found", Due.found(desk), "1@1 1@1003");
        DUE.is("lines", Due.lines(desk), "2");
        Due.piece(desk, "a");
        DUE.is("skip(0)", desk.skip(0), true);
        DUE.is("state() behind 0", desk.state(), 0);
        DUE.is("place() behind 0", desk.place(), 1005);
        DUE.is("b behind 0", Due.piece(desk, "b"), 1);
        DUE.is("word(2)", desk.word(2), 1);
    }
}
