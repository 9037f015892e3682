import java.util.ArrayList;
import java.util.Arrays;
import java.util.List;

/** What the edge tests share: the sentence that is tested, the answers that are due, small makers of objects. */
final class Held {
    static final List<String> sentences = new ArrayList<>();
    static int wrong = 0;
    static int checks = 0;
    private static int checksBefore = 0;

    /** From here on the checks are of this sentence, told in the document's own words. */
    static void says(String words) {
        closeSentence();
        sentences.add(words);
    }

    /** A sentence without a check is a fault of the test. */
    static void closeSentence() {
        if (!sentences.isEmpty() && checks == checksBefore) fail("nothing is checked");
        checksBefore = checks;
    }

    static void fail(String what) {
        wrong++;
        String words = sentences.isEmpty() ? "" : sentences.get(sentences.size() - 1);
        System.out.println("\"" + words + "\": " + what);
    }

    static void due(String call, long got, long want) {
        checks++;
        if (got != want) fail(call + " answered " + got + ", due is " + want);
    }

    static void row(String call, int[] got, int... want) {
        checks++;
        if (!Arrays.equals(got, want)) fail(call + " answered " + Arrays.toString(got) + ", due is " + Arrays.toString(want));
    }

    /** KINDS with these PARENTS, a digit each; numbers that tell nothing are wrong ones. */
    static AnswerLines made(String... parents) {
        AnswerLines x = new AnswerLines();
        for (int kind = 0; kind < parents.length; kind++) {
            int[] told = {-7, 99, Integer.MIN_VALUE};
            for (int i = 0; i < parents[kind].length(); i++) told[i] = parents[kind].charAt(i) - '0';
            int got = x.kind(parents[kind].length(), told[0], told[1], told[2]);
            if (got != kind) fail("KIND " + kind + " with PARENTS " + parents[kind] + " answered " + got);
        }
        return x;
    }

    static AnswerLines roots(int n) {
        String[] none = new String[n];
        Arrays.fill(none, "");
        return made(none);
    }

    /** Each KIND BELOW the one ahead of it. */
    static AnswerLines chain(int n) {
        String[] parents = new String[n];
        for (int kind = 0; kind < n; kind++) parents[kind] = kind == 0 ? "" : String.valueOf(kind - 1);
        return made(parents);
    }

    /** 0; 1 and 2 BELOW it; 3 BELOW 1, 2; 4 BELOW 2, 1; 5 BELOW 3, 4, without a LINE; 6 BELOW 5. */
    static AnswerLines diamond() {
        return made("", "0", "0", "12", "21", "34", "5");
    }

    static void pad(AnswerLines x, String text) {
        x.wipe();
        for (int i = 0; i < text.length(); i++) x.say(text.charAt(i));
    }

    static int give(AnswerLines x, int kind, int name, String text) {
        pad(x, text);
        return x.has(kind, name);
    }

    static int[] line(AnswerLines x, int kind) {
        int[] row = new int[Math.max(x.line(kind, -1), 0)];
        for (int i = 0; i < row.length; i++) row[i] = x.line(kind, i);
        return row;
    }

    /** How a RUN ENDS, then what it SAID. */
    static int[] run(AnswerLines x, int kind, int name) {
        int[] row = new int[1 + Math.max(x.run(kind, name, -2), 0)];
        row[0] = x.run(kind, name, -1);
        for (int i = 1; i < row.length; i++) row[i] = x.run(kind, name, i - 1);
        return row;
    }

    static int[] columns(AnswerLines x) {
        int[] row = new int[8];
        for (int name = 0; name < 8; name++) row[name] = x.column(name);
        return row;
    }

    static int[] slots(AnswerLines x, int many) {
        int[] row = new int[many];
        for (int place = 0; place < many; place++) row[place] = x.slot(place);
        return row;
    }

    static void calls(AnswerLines x, int place, int... kinds) {
        for (int kind : kinds) x.call(place, kind);
    }

    static int[] remembered(AnswerLines x, int place) {
        int[] row = new int[4];
        for (int i = 0; i < 4; i++) row[i] = x.hits(place, 10 + i);
        return row;
    }

    private Held() {
    }
}
