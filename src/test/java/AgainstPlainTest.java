import java.util.Random;

/** All promises: long mixed runs, each answer the same as the plain desk's. The seeds are fixed. */
public final class AgainstPlainTest {
    private static final Due DUE = new Due("AgainstPlainTest");
    private static final int RUNS = 200;
    private static final int CALLS = 512;

    private final Random random;
    private final int run;
    private final int letters;
    private final int longest;
    private final ScanDesk desk;
    private final PlainDesk plain;

    private AgainstPlainTest(int run) {
        this.run = run;
        random = new Random(run);
        letters = 1 + random.nextInt(4);
        longest = run % 5 == 0 ? 40 : 1 + random.nextInt(8);
        int room = run % 4 == 0 ? random.nextInt(40) - 2 : 2100;
        desk = new ScanDesk(room);
        plain = new PlainDesk(room);
    }

    public static void main(String[] args) {
        for (int run = 0; run < RUNS; run++) {
            new AgainstPlainTest(run).go();
        }
        DUE.finish();
    }

    private void go() {
        int calls = 0;
        int forWords = random.nextInt(run % 3 == 0 ? 300 : 60);
        while (calls < forWords) {
            calls += addOne();
        }
        if (random.nextInt(10) > 0) {
            same("build()", desk.build(), plain.build());
        }
        for (calls++; calls < CALLS; calls++) {
            anyCall();
        }
        compareAll();
    }

    private int addOne() {
        int length = 1 + random.nextInt(longest);
        for (int i = 0; i < length; i++) {
            int b = letter();
            same("put(" + b + ")", desk.put(b), plain.put(b));
        }
        same("add()", desk.add(), plain.add());
        return length + 1;
    }

    private void anyCall() {
        switch (random.nextInt(24)) {
            case 0 -> same("place()", desk.place(), plain.place());
            case 1 -> same("found()", desk.found(), plain.found());
            case 2 -> askFound(index(plain.found()));
            case 3 -> askCount(random.nextInt(64) - 2);
            case 4 -> same("lines()", desk.lines(), plain.lines());
            case 5 -> askLine(index(plain.lines()));
            case 6 -> same("steps()", desk.steps(), plain.steps());
            case 7 -> same("state()", desk.state(), plain.state());
            case 8, 9 -> same("pick()", desk.pick(), plain.pick());
            case 10, 11, 12 -> askPicked(random.nextInt(12) - 1);
            case 13 -> skip();
            case 14 -> odd();
            default -> text(random.nextInt(8) == 0 ? random.nextInt(24) - 2 : 1 + random.nextInt(6));
        }
    }

    private void text(int n) {
        int[] fours = new int[5];
        for (int i = 0; i < 20; i++) {
            int b = random.nextInt(30) == 0 ? 10 : random.nextInt(30) == 0 ? random.nextInt(256) : letter();
            fours[i / 4] |= b << (24 - 8 * (i % 4));
        }
        int got = desk.text(fours[0], fours[1], fours[2], fours[3], fours[4], n);
        same("text(.., " + n + ")", got, plain.text(fours, n));
    }

    private void skip() {
        long n = switch (random.nextInt(8)) {
            case 0 -> -random.nextInt(3);
            case 1 -> random.nextLong();
            case 2 -> run % 7 == 0 ? (1L << 62) - plain.place() : 1;
            default -> random.nextInt(50);
        };
        same("skip(" + n + ")", desk.skip(n) ? 1 : 0, plain.skip(n) ? 1 : 0);
    }

    private void odd() {
        int b = random.nextInt(300) - 20;
        same("put(" + b + ")", desk.put(b), plain.put(b));
        same("add()", desk.add(), plain.add());
        if (random.nextInt(4) == 0) {
            same("build()", desk.build(), plain.build());
        }
    }

    private void compareAll() {
        for (int k = -1; k <= plain.found(); k++) {
            askFound(k);
        }
        for (int w = -1; w <= 60; w++) {
            askCount(w);
        }
        for (int k = -1; k <= plain.lines(); k++) {
            askLine(k);
        }
        int picks = plain.pick();
        same("pick()", desk.pick(), picks);
        for (int k = -1; k <= picks; k++) {
            askPicked(k);
        }
        same("place()", desk.place(), plain.place());
        same("steps()", desk.steps(), plain.steps());
        same("state()", desk.state(), plain.state());
        same("found()", desk.found(), plain.found());
        same("lines()", desk.lines(), plain.lines());
    }

    private void askFound(int k) {
        same("word(" + k + ")", desk.word(k), plain.word(k));
        same("end(" + k + ")", desk.end(k), plain.end(k));
    }

    private void askCount(int word) {
        same("count(" + word + ")", desk.count(word), plain.count(word));
    }

    private void askLine(int k) {
        same("line(" + k + ")", desk.line(k), plain.line(k));
    }

    private void askPicked(int k) {
        same("picked(" + k + ")", desk.picked(k), plain.picked(k));
    }

    private int index(int size) {
        return random.nextInt(size + 3) - 1;
    }

    private int letter() {
        return 'a' + random.nextInt(letters);
    }

    private void same(String call, long got, long want) {
        DUE.is("run " + run + ": " + call, got, want);
    }
}
