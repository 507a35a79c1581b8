import java.util.ArrayList;
import java.util.List;
import java.util.Random;
import java.util.function.ToLongFunction;

/**
 * All promises: mixed runs, each answer the same as the plain desk's. The seeds are fixed. No object
 * is asked more than 512 calls, as later answers are free: what a run has found is asked in parts,
 * each of a new object that has had the same calls.
 */
public final class AgainstPlainTest {
    private static final Due DUE = new Due("AgainstPlainTest");
    private static final int RUNS = 200;
    private static final int CALLS = 512;

    private record Call(String name, ToLongFunction<ScanDesk> answer, long due) {
    }

    private final Random random;
    private final int run;
    private final int letters;
    private final int longest;
    private final int room;
    private final PlainDesk plain;
    private final List<Call> calls = new ArrayList<>();
    /** Those of the calls that do more than ask. */
    private final List<Call> changes = new ArrayList<>();

    private AgainstPlainTest(int run) {
        this.run = run;
        random = new Random(run);
        letters = 1 + random.nextInt(4);
        longest = run % 5 == 0 ? 40 : 1 + random.nextInt(8);
        room = run % 4 == 0 ? random.nextInt(40) - 2 : 2100;
        plain = new PlainDesk(room);
    }

    public static void main(String[] args) {
        for (int run = 0; run < RUNS; run++) {
            new AgainstPlainTest(run).go();
        }
        DUE.finish();
    }

    private void go() {
        mixCalls();
        play(calls);
        pick();
        List<Call> questions = lastQuestions();
        int part = CALLS - changes.size();
        for (int from = 0; from < questions.size(); from += part) {
            List<Call> all = new ArrayList<>(changes);
            all.addAll(questions.subList(from, Math.min(questions.size(), from + part)));
            play(all);
        }
    }

    private void play(List<Call> row) {
        if (row.size() > CALLS) {
            throw new IllegalStateException("run " + run + " has " + row.size() + " calls");
        }
        ScanDesk desk = new ScanDesk(room);
        for (Call call : row) {
            DUE.is("run " + run + ": " + call.name, call.answer.applyAsLong(desk), call.due);
        }
    }

    private void mixCalls() {
        int forWords = random.nextInt(run % 3 == 0 ? 300 : 60);
        while (calls.size() < forWords) {
            word();
        }
        if (random.nextInt(10) > 0) {
            build();
        }
        while (calls.size() < CALLS) {
            anyCall();
        }
    }

    private void word() {
        int length = 1 + random.nextInt(longest);
        for (int i = 0; i < length; i++) {
            put(letter());
        }
        add();
    }

    private void anyCall() {
        switch (random.nextInt(24)) {
            case 0 -> calls.add(place());
            case 1 -> calls.add(found());
            case 2 -> calls.add(word(index(plain.found())));
            case 3 -> calls.add(end(index(plain.found())));
            case 4 -> calls.add(count(random.nextInt(64) - 2));
            case 5 -> calls.add(lines());
            case 6 -> calls.add(line(index(plain.lines())));
            case 7 -> calls.add(steps());
            case 8 -> calls.add(state());
            case 9, 10 -> pick();
            case 11, 12 -> calls.add(picked(random.nextInt(12) - 1));
            case 13 -> skip(anySkip());
            case 14 -> callForWords();
            default -> text(random.nextInt(8) == 0 ? random.nextInt(24) - 2 : 1 + random.nextInt(6));
        }
    }

    /** Most often it comes when building is done. */
    private void callForWords() {
        switch (random.nextInt(5)) {
            case 0 -> build();
            case 1, 2 -> add();
            default -> put(random.nextInt(300) - 20);
        }
    }

    private List<Call> lastQuestions() {
        List<Call> row = new ArrayList<>(List.of(place(), found(), lines(), steps(), state()));
        for (int k = -1; k <= plain.found(); k++) {
            row.add(word(k));
            row.add(end(k));
        }
        for (int w = -1; w <= 60; w++) {
            row.add(count(w));
        }
        for (int k = -1; k <= plain.lines(); k++) {
            row.add(line(k));
        }
        int picks = plain.pick();
        for (int k = -1; k <= picks; k++) {
            row.add(picked(k));
        }
        return row;
    }

    private void change(String name, ToLongFunction<ScanDesk> answer, long due) {
        Call call = new Call(name, answer, due);
        calls.add(call);
        changes.add(call);
    }

    private void put(int b) {
        change("put(" + b + ")", desk -> desk.put(b), plain.put(b));
    }

    private void add() {
        change("add()", ScanDesk::add, plain.add());
    }

    private void build() {
        change("build()", ScanDesk::build, plain.build());
    }

    private void text(int n) {
        int[] fours = new int[5];
        for (int i = 0; i < 20; i++) {
            int b = random.nextInt(30) == 0 ? 10 : random.nextInt(30) == 0 ? random.nextInt(256) : letter();
            fours[i / 4] |= b << (24 - 8 * (i % 4));
        }
        change("text(.., " + n + ")",
                desk -> desk.text(fours[0], fours[1], fours[2], fours[3], fours[4], n), plain.text(fours, n));
    }

    private void skip(long n) {
        change("skip(" + n + ")", desk -> desk.skip(n) ? 1 : 0, plain.skip(n) ? 1 : 0);
    }

    private void pick() {
        change("pick()", ScanDesk::pick, plain.pick());
    }

    private Call place() {
        return new Call("place()", ScanDesk::place, plain.place());
    }

    private Call found() {
        return new Call("found()", ScanDesk::found, plain.found());
    }

    private Call word(int k) {
        return new Call("word(" + k + ")", desk -> desk.word(k), plain.word(k));
    }

    private Call end(int k) {
        return new Call("end(" + k + ")", desk -> desk.end(k), plain.end(k));
    }

    private Call count(int word) {
        return new Call("count(" + word + ")", desk -> desk.count(word), plain.count(word));
    }

    private Call lines() {
        return new Call("lines()", ScanDesk::lines, plain.lines());
    }

    private Call line(int k) {
        return new Call("line(" + k + ")", desk -> desk.line(k), plain.line(k));
    }

    private Call steps() {
        return new Call("steps()", ScanDesk::steps, plain.steps());
    }

    private Call state() {
        return new Call("state()", ScanDesk::state, plain.state());
    }

    private Call picked(int k) {
        return new Call("picked(" + k + ")", desk -> desk.picked(k), plain.picked(k));
    }

    private long anySkip() {
        return switch (random.nextInt(8)) {
            case 0 -> -random.nextInt(3);
            case 1 -> random.nextLong();
            case 2 -> run % 7 == 0 ? (1L << 62) - plain.place() : 1;
            default -> random.nextInt(50);
        };
    }

    private int index(int size) {
        return random.nextInt(size + 3) - 1;
    }

    private int letter() {
        return 'a' + random.nextInt(letters);
    }
}
