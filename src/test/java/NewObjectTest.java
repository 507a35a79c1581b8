/** Promise 1: a new object. */
public final class NewObjectTest {
    private static final Due DUE = new Due("NewObjectTest");

    public static void main(String[] args) {
        hasNothing();
        DUE.finish();
    }

    private static void hasNothing() {
        ScanDesk desk = new ScanDesk(100);
        DUE.is("NONE", ScanDesk.NONE, -1);
        DUE.is("place()", desk.place(), 0);
        DUE.is("found()", desk.found(), 0);
        DUE.is("lines()", desk.lines(), 0);
        DUE.is("steps()", desk.steps(), 0);
        DUE.is("state()", desk.state(), 0);
        DUE.is("count(0)", desk.count(0), -1);
        DUE.is("word(0)", desk.word(0), -1);
        DUE.is("end(0)", desk.end(0), -1);
        DUE.is("line(0)", desk.line(0), -1);
        DUE.is("picked(0)", desk.picked(0), -1);
        DUE.is("add() without a byte", desk.add(), -1);
        DUE.is("build()", desk.build(), 1);
    }
}
