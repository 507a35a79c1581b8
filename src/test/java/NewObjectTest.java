/** Promise 1: a new object. */
public final class NewObjectTest {
    private static final Due DUE = new Due("NewObjectTest");

    public static void main(String[] args) {
        hasNothing();
        roomCountsTheEmptyPrefix();
        roomIsAtLeastOne();
        roomIsAtMostTwoThousand();
        DUE.finish();
    }

    private static void hasNothing() {
        ScanDesk desk = new ScanDesk(100);
        DUE.is("NONE", ScanDesk.NONE, -1);
        DUE.is("place()", desk.place(), 0);
        DUE.is("found()", desk.found(), 0);
        DUE.is("lines()", desk.lines(), 0);
        DUE.is("steps()", desk.steps(), 0);
        DUE.is("state()", desk.state(), 0);
        DUE.is("count(0)", desk.count(0), -1);
        DUE.is("word(0)", desk.word(0), -1);
        DUE.is("end(0)", desk.end(0), -1);
        DUE.is("line(0)", desk.line(0), -1);
        DUE.is("picked(0)", desk.picked(0), -1);
        DUE.is("add() without a byte", desk.add(), -1);
        DUE.is("build()", desk.build(), 1);
    }

    private static void roomCountsTheEmptyPrefix() {
        ScanDesk three = new ScanDesk(3);
        DUE.is("abc in a room of 3", Due.word(three, "abc"), -1);
        DUE.is("ab in a room of 3", Due.word(three, "ab"), 0);
        DUE.is("build() of 3", three.build(), 3);
        ScanDesk one = new ScanDesk(1);
        DUE.is("a in a room of 1", Due.word(one, "a"), -1);
        ScanDesk two = new ScanDesk(2);
        DUE.is("a in a room of 2", Due.word(two, "a"), 0);
        DUE.is("b in a room of 2", Due.word(two, "b"), -1);
        DUE.is("a again in a room of 2", Due.word(two, "a"), 1);
    }

    private static void roomIsAtLeastOne() {
        int[] rooms = {0, -1, Integer.MIN_VALUE};
        for (int room : rooms) {
            ScanDesk desk = new ScanDesk(room);
            DUE.is("a in a room of " + room, Due.word(desk, "a"), -1);
            DUE.is("build() in a room of " + room, desk.build(), 1);
        }
    }

    /** Takes more than 512 calls, so no promise covers it; the room must stand all the same. */
    private static void roomIsAtMostTwoThousand() {
        int[] rooms = {1999, 2000, 2001, Integer.MAX_VALUE};
        for (int room : rooms) {
            ScanDesk desk = new ScanDesk(room);
            for (int w = 0; w < 49; w++) {
                DUE.is("word " + w + " of 40", Due.word(desk, (char) (200 + w) + "x".repeat(39)), w);
            }
            int last = room == 1999 ? 38 : 39;
            DUE.is("one too long for " + room, Due.word(desk, "y".repeat(last + 1)), -1);
            DUE.is("one that fits in " + room, Due.word(desk, "y".repeat(last)), 49);
            DUE.is("build() in a room of " + room, desk.build(), room == 1999 ? 1999 : 2000);
        }
    }
}
