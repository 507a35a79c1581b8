/** Promises 12 and 13: lines and line. */
public final class LinesTest {
    private static final Due DUE = new Due("LinesTest");

    public static void main(String[] args) {
        onlyLinesWithOneCount();
        theLastLineCountsEndedOrNot();
        manyLines();
        DUE.finish();
    }

    private static void onlyLinesWithOneCount() {
        ScanDesk desk = Due.desk("a");
        Due.piece(desk, "x\naa\n\nxa\nx\na");
        DUE.is("lines()", desk.lines(), 3);
        DUE.is("lines", Due.lines(desk), "2 4 6");
    }

    private static void theLastLineCountsEndedOrNot() {
        ScanDesk desk = Due.desk("a");
        DUE.is("lines() at first", desk.lines(), 0);
        Due.piece(desk, "xa");
        DUE.is("lines() in line 1", desk.lines(), 1);
        Due.piece(desk, "a");
        DUE.is("lines() in line 1 still", desk.lines(), 1);
        Due.piece(desk, "\n");
        DUE.is("lines() behind line 1", desk.lines(), 1);
        Due.piece(desk, "x");
        DUE.is("lines() in line 2 without one", desk.lines(), 1);
        Due.piece(desk, "a");
        DUE.is("lines() in line 2", desk.lines(), 2);
        DUE.is("lines", Due.lines(desk), "1 2");
    }

    private static void manyLines() {
        ScanDesk desk = Due.desk("a");
        Due.feed(desk, "a\nb\n".repeat(200));
        DUE.is("lines()", desk.lines(), 200);
        for (int k = 0; k < 200; k++) {
            DUE.is("line(" + k + ")", desk.line(k), 2 * k + 1);
        }
    }
}
