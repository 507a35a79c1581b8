/** Promises 5 to 7: text, skip and place. */
public final class TextTest {
    private static final Due DUE = new Due("TextTest");
    private static final long TOP = 1L << 62;

    public static void main(String[] args) {
        textTakesTheHighestByteFirst();
        textTakesTheFirstBytesAlone();
        textRefuses();
        textGoesOnOverCalls();
        textEndsAboveThreeThousand();
        textGoesOnAtThreeThousand();
        skipLeavesBytesOut();
        skipRefuses();
        skipStopsAtTheTop();
        textGoesAboveTheTop();
        DUE.finish();
    }

    private static void textTakesTheHighestByteFirst() {
        ScanDesk desk = Due.desk("\u0001\u0002\u0003\u0004", "\u00fe\u00ff", "\u0014");
        DUE.is("text of twenty",
                desk.text(0x01020304, 0x05060708, 0x090B0CFE, 0xFF0D0E0F, 0x10111214, 20), 3);
        DUE.is("found", Due.found(desk), "0@3 1@12 2@19");
        DUE.is("place()", desk.place(), 20);
    }

    private static void textTakesTheFirstBytesAlone() {
        for (int n = 0; n <= 20; n++) {
            ScanDesk desk = Due.desk("a");
            DUE.is("text of " + n, desk.text(0x61616161, 0x61616161, 0x61616161, 0x61616161, 0x61616161, n), n);
            DUE.is("place() behind " + n, desk.place(), n);
            DUE.is("found() behind " + n, desk.found(), n);
            DUE.is("steps() behind " + n, desk.steps(), n == 0 ? 0 : 2 * n - 1);
        }
    }

    private static void textRefuses() {
        ScanDesk desk = new ScanDesk(50);
        Due.word(desk, "a");
        DUE.is("text before build()", Due.piece(desk, "aaa"), -1);
        DUE.is("text of nothing before build()", Due.piece(desk, ""), -1);
        desk.build();
        int[] wrong = {-1, 21, 255, Integer.MIN_VALUE, Integer.MAX_VALUE};
        for (int n : wrong) {
            DUE.is("text of " + n, desk.text(0x61616161, 0, 0, 0, 0, n), -1);
        }
        DUE.is("found()", desk.found(), 0);
        DUE.is("place()", desk.place(), 0);
        DUE.is("steps()", desk.steps(), 0);
        DUE.is("text of 0", desk.text(0x61616161, 0, 0, 0, 0, 0), 0);
        DUE.is("text of 4", desk.text(0x61616161, 0, 0, 0, 0, 4), 4);
    }

    private static void textGoesOnOverCalls() {
        ScanDesk desk = Due.desk("abcab", "ca");
        DUE.is("abc", Due.piece(desk, "abc"), 0);
        DUE.is("nothing", Due.piece(desk, ""), 0);
        DUE.is("a", Due.piece(desk, "a"), 1);
        DUE.is("bca", Due.piece(desk, "bca"), 2);
        DUE.is("found", Due.found(desk), "1@3 0@4 1@6");
    }

    private static void textEndsAboveThreeThousand() {
        String[] same = new String[60];
        java.util.Arrays.fill(same, "a");
        ScanDesk desk = Due.desk(same);
        String twenty = "a".repeat(20);
        DUE.is("the first 1200", Due.piece(desk, twenty), 1200);
        DUE.is("2400", Due.piece(desk, twenty), 1200);
        DUE.is("600 more", Due.piece(desk, "a".repeat(10)), 600);
        DUE.is("found()", desk.found(), 3000);
        DUE.is("at 3000 just", Due.piece(desk, twenty), 1200);
        DUE.is("found() above", desk.found(), 4200);
        long steps = desk.steps();
        DUE.is("pick()", desk.pick(), 70);
        DUE.is("above 3000", Due.piece(desk, "a"), -1);
        DUE.is("nothing above 3000", Due.piece(desk, ""), -1);
        DUE.is("another byte above 3000", Due.piece(desk, "b"), -1);
        DUE.is("found() still", desk.found(), 4200);
        DUE.is("place() still", desk.place(), 70);
        DUE.is("steps() still", desk.steps() - steps, 0);
        DUE.is("picked(69) still", desk.picked(69), 69 * 60);
        DUE.is("count(59)", desk.count(59), 70);
        DUE.is("word(4199)", desk.word(4199), 59);
        DUE.is("end(4199)", desk.end(4199), 69);
        DUE.is("word(4200)", desk.word(4200), -1);
        DUE.is("skip(5) above 3000", desk.skip(5), true);
        DUE.is("place() behind it", desk.place(), 75);
    }

    private static void textGoesOnAtThreeThousand() {
        ScanDesk desk = Due.desk("a", "a", "a", "a", "a", "a", "a", "a", "a", "a", "b");
        DUE.is("2990", Due.feed(desk, "a".repeat(299)), 2990);
        DUE.is("3000", Due.piece(desk, "ac"), 10);
        DUE.is("no more than 3000", Due.piece(desk, "cc"), 0);
        DUE.is("3001", Due.piece(desk, "b"), 1);
        DUE.is("more than 3000", Due.piece(desk, "c"), -1);
        DUE.is("found()", desk.found(), 3001);
    }

    private static void skipLeavesBytesOut() {
        ScanDesk desk = Due.desk("ab", "b");
        Due.piece(desk, "\nba");
        DUE.is("state()", desk.state(), 1);
        DUE.is("skip(1000)", desk.skip(1000), true);
        DUE.is("state() behind", desk.state(), 0);
        DUE.is("place()", desk.place(), 1003);
        DUE.is("steps()", desk.steps(), 4);
        DUE.is("b", Due.piece(desk, "b"), 1);
        DUE.is("found", Due.found(desk), "1@1 1@1003");
        DUE.is("lines", Due.lines(desk), "2");
        Due.piece(desk, "a");
        DUE.is("skip(0)", desk.skip(0), true);
        DUE.is("state() behind 0", desk.state(), 0);
        DUE.is("place() behind 0", desk.place(), 1005);
        DUE.is("b behind 0", Due.piece(desk, "b"), 1);
        DUE.is("word(2)", desk.word(2), 1);
    }

    private static void skipRefuses() {
        ScanDesk desk = new ScanDesk(50);
        Due.word(desk, "ab");
        DUE.is("skip(0) before build()", desk.skip(0), false);
        DUE.is("skip(5) before build()", desk.skip(5), false);
        DUE.is("place()", desk.place(), 0);
        desk.build();
        Due.piece(desk, "a");
        long[] wrong = {-1, Long.MIN_VALUE, TOP, TOP + 1, Long.MAX_VALUE};
        for (long n : wrong) {
            DUE.is("skip(" + n + ")", desk.skip(n), false);
        }
        DUE.is("place() behind", desk.place(), 1);
        DUE.is("state() behind", desk.state(), 1);
        DUE.is("b", Due.piece(desk, "b"), 1);
    }

    private static void skipStopsAtTheTop() {
        ScanDesk desk = Due.desk("a");
        DUE.is("skip above", desk.skip(TOP + 1), false);
        DUE.is("skip to the top", desk.skip(TOP), true);
        DUE.is("place()", desk.place(), TOP);
        DUE.is("skip(0) there", desk.skip(0), true);
        DUE.is("skip(1) there", desk.skip(1), false);
        DUE.is("skip of the largest there", desk.skip(Long.MAX_VALUE), false);
    }

    private static void textGoesAboveTheTop() {
        ScanDesk desk = Due.desk("ab");
        desk.skip(TOP - 1);
        DUE.is("ab", Due.piece(desk, "ab"), 1);
        DUE.is("end(0)", desk.end(0), TOP);
        DUE.is("place()", desk.place(), TOP + 1);
        DUE.is("a", Due.piece(desk, "a"), 0);
        DUE.is("skip(0) above", desk.skip(0), false);
        DUE.is("state() is kept", desk.state(), 1);
        DUE.is("b", Due.piece(desk, "b"), 1);
        DUE.is("end(1)", desk.end(1), TOP + 2);
        DUE.is("picked", Due.picked(desk), "0@" + TOP + " 0@" + (TOP + 2));
    }
}
