import java.util.function.LongSupplier;

/** Collects the answers that are not as due, and helps to drive a desk with written texts. */
final class Due {
    private final String test;
    private String sentence = "";
    private int asked = 0;
    private int wrong = 0;

    Due(String test) {
        this.test = test;
    }

    /** The sentence of the document that the answers from here on belong to. */
    void says(String where, String sentence) {
        this.sentence = " [" + where + ": " + sentence + "]";
    }

    void is(String call, long got, long want) {
        is(call, Long.toString(got), Long.toString(want));
    }

    void is(String call, boolean got, boolean want) {
        is(call, Boolean.toString(got), Boolean.toString(want));
    }

    void is(String call, String got, String want) {
        asked++;
        if (!got.equals(want)) {
            wrong++;
            String row = sentence + ": " + call + " answered " + got + ", due is " + want;
            System.out.println(test + row.replace("\n", "\\n"));
        }
    }

    /** The call answers NONE, and no other answer is changed by it. */
    void refuses(ScanDesk desk, String call, LongSupplier answer) {
        String before = all(desk);
        is(call, answer.getAsLong(), ScanDesk.NONE);
        is("everything behind " + call, all(desk), before);
    }

    /** The skip is refused, and no other answer is changed by it. */
    void refusesSkip(ScanDesk desk, long n) {
        String before = all(desk);
        is("skip(" + n + ")", desk.skip(n), false);
        is("everything behind skip(" + n + ")", all(desk), before);
    }

    void finish() {
        System.out.println(test + ": " + asked + " answers, " + wrong + " not as due");
        if (wrong != 0) {
            System.exit(1);
        }
    }

    static ScanDesk desk(String... words) {
        ScanDesk desk = new ScanDesk(2000);
        for (String word : words) {
            word(desk, word);
        }
        desk.build();
        return desk;
    }

    static int word(ScanDesk desk, String word) {
        for (int i = 0; i < word.length(); i++) {
            desk.put(word.charAt(i));
        }
        return desk.add();
    }

    /** The whole text in calls of twenty bytes: how many occurrences end in it. */
    static int feed(ScanDesk desk, String text) {
        int sum = 0;
        for (int from = 0; from < text.length(); from += 20) {
            sum += piece(desk, text.substring(from, Math.min(text.length(), from + 20)));
        }
        return sum;
    }

    /** At most twenty bytes in one call: what it answers. */
    static int piece(ScanDesk desk, String text) {
        int[] fours = new int[5];
        for (int i = 0; i < text.length(); i++) {
            fours[i / 4] |= text.charAt(i) << (24 - 8 * (i % 4));
        }
        return desk.text(fours[0], fours[1], fours[2], fours[3], fours[4], text.length());
    }

    /** All occurrences as "word@end", in their order. */
    static String found(ScanDesk desk) {
        StringBuilder all = new StringBuilder();
        for (int k = 0; k < desk.found(); k++) {
            all.append(k == 0 ? "" : " ").append(desk.word(k)).append('@').append(desk.end(k));
        }
        return all.toString();
    }

    static String lines(ScanDesk desk) {
        StringBuilder all = new StringBuilder();
        for (int k = 0; k < desk.lines(); k++) {
            all.append(k == 0 ? "" : " ").append(desk.line(k));
        }
        return all.toString();
    }

    /** What every call answers that only asks. */
    static String all(ScanDesk desk) {
        StringBuilder all = new StringBuilder();
        all.append("place ").append(desk.place()).append(", steps ").append(desk.steps());
        all.append(", state ").append(desk.state()).append(", found ").append(found(desk));
        all.append(", lines ").append(lines(desk)).append(", counts");
        for (int word = 0; word < 60 && desk.count(word) != ScanDesk.NONE; word++) {
            all.append(' ').append(desk.count(word));
        }
        all.append(", picked");
        for (int k = 0; k < desk.found(); k++) {
            all.append(' ').append(desk.picked(k));
        }
        return all.toString();
    }

    /** Picks anew; the picked occurrences as "word@end". */
    static String picked(ScanDesk desk) {
        StringBuilder all = new StringBuilder();
        int picks = desk.pick();
        for (int k = 0; k < picks; k++) {
            int number = desk.picked(k);
            all.append(k == 0 ? "" : " ").append(desk.word(number)).append('@').append(desk.end(number));
        }
        return all.toString();
    }
}
