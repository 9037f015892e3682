import java.lang.reflect.Field;
import java.lang.reflect.Method;
import java.lang.reflect.Modifier;
import java.util.Arrays;
import java.util.TreeSet;

/** The promises of the document one by one, with answers worked out by hand. */
public final class PromiseTests {
    private static int wrong = 0;
    private static int promise = 0;
    private static final int[] checks = new int[29];

    private static void due(String call, long got, long want) {
        checks[promise]++;
        if (got == want) return;
        wrong++;
        System.out.println("promise " + promise + ": " + call + " answered " + got + ", due is " + want);
    }

    private static void row(String call, int[] got, int... want) {
        checks[promise]++;
        if (Arrays.equals(got, want)) return;
        wrong++;
        System.out.println("promise " + promise + ": " + call + " answered " + Arrays.toString(got)
            + ", due is " + Arrays.toString(want));
    }

    private static int[] line(AnswerLines x, int kind) {
        int[] row = new int[x.line(kind, -1)];
        for (int i = 0; i < row.length; i++) row[i] = x.line(kind, i);
        return row;
    }

    private static int[] said(AnswerLines x, int kind, int name) {
        int[] row = new int[x.run(kind, name, -2)];
        for (int i = 0; i < row.length; i++) row[i] = x.run(kind, name, i);
        return row;
    }

    private static void pad(AnswerLines x, String text) {
        x.wipe();
        for (int i = 0; i < text.length(); i++) x.say(text.charAt(i));
    }

    private static int give(AnswerLines x, int kind, int name, String text) {
        pad(x, text);
        return x.has(kind, name);
    }

    private static AnswerLines roots(int n) {
        AnswerLines x = new AnswerLines();
        for (int i = 0; i < n; i++) x.kind(0, 0, 0, 0);
        return x;
    }

    /** 0; 1 and 2 below it; 3 below 1 and 2; 4 below 2 and 1; 5 below 3 and 4 (no LINE); 6 below 5. */
    private static AnswerLines diamond() {
        AnswerLines x = roots(1);
        x.kind(1, 0, 0, 0);
        x.kind(1, 0, 0, 0);
        x.kind(2, 1, 2, 0);
        x.kind(2, 2, 1, 0);
        x.kind(2, 3, 4, 0);
        x.kind(1, 5, 0, 0);
        return x;
    }

    private static void theFace() {
        promise = 0;
        TreeSet<String> methods = new TreeSet<>();
        for (Method m : AnswerLines.class.getDeclaredMethods()) {
            if (!Modifier.isPrivate(m.getModifiers()) && !m.isSynthetic()) methods.add(m.getName());
        }
        due("the methods of the face", methods.equals(new TreeSet<>(Arrays.asList("kind", "bare", "of", "line",
            "quarrel", "say", "wipe", "fault", "has", "drop", "answer", "next", "run", "nearest", "doubt", "settle",
            "shift", "column", "packed", "slot", "one", "call", "forget", "size", "hits", "need", "told"))) ? 1 : 0, 1);
        TreeSet<String> fields = new TreeSet<>();
        for (Field f : AnswerLines.class.getDeclaredFields()) {
            if (!Modifier.isPrivate(f.getModifiers())) fields.add(f.getName());
        }
        due("the constants of the face", fields.equals(new TreeSet<>(Arrays.asList("UNKNOWN", "OUTSIDE", "STATE",
            "FULL", "NO", "NONE"))) ? 1 : 0, 1);
        due("UNKNOWN", AnswerLines.UNKNOWN, -1);
        due("OUTSIDE", AnswerLines.OUTSIDE, -2);
        due("STATE", AnswerLines.STATE, -3);
        due("FULL", AnswerLines.FULL, -4);
        due("NO", AnswerLines.NO, -5);
        due("NONE", AnswerLines.NONE, -6);
    }

    private static void newObject() {
        promise = 1;
        AnswerLines x = new AnswerLines();
        due("told(0)", x.told(0), 0);
        due("told(1)", x.told(1), 0);
        due("told(2)", x.told(2), 0);
        due("wipe()", x.wipe(), 0);
        due("fault()", x.fault(), -6);
        due("forget()", x.forget(), 0);
        due("column(-1)", x.column(-1), 0);
        due("packed(-1)", x.packed(-1), 0);
        due("slot(0)", x.slot(0), -6);
        due("doubt(0)", x.doubt(0), 0);
        due("settle(0, 0)", x.settle(0, 0), 0);
        due("hits(0, 0)", x.hits(0, 0), 0);
        for (int place = 0; place < 4; place++) due("size(" + place + ", 1)", x.size(place, 1), 1);
        roots(3);
        due("told(0), another object made", x.told(0), 0);
    }

    private static void kind() {
        promise = 2;
        AnswerLines x = new AnswerLines();
        due("kind(1, 0, ..), no KINDS", x.kind(1, 0, 0, 0), -1);
        due("kind(0, 9, 9, 9)", x.kind(0, 9, 9, 9), 0);
        due("kind(1, 1, ..), itself", x.kind(1, 1, 0, 0), -1);
        due("kind(1, -1, ..)", x.kind(1, -1, 0, 0), -1);
        due("kind(1, 0, 9, -9)", x.kind(1, 0, 9, -9), 1);
        due("kind(2, 1, 1, 0)", x.kind(2, 1, 1, 0), -1);
        due("kind(2, 1, 0, 9)", x.kind(2, 1, 0, 9), 2);
        due("kind(3, 2, 1, 2)", x.kind(3, 2, 1, 2), -1);
        due("kind(3, 2, 1, 1)", x.kind(3, 2, 1, 1), -1);
        due("kind(3, 2, 1, 3)", x.kind(3, 2, 1, 3), -1);
        due("kind(3, 2, 1, 0)", x.kind(3, 2, 1, 0), 3);
        due("kind(4, 2, 1, 0)", x.kind(4, 2, 1, 0), -2);
        due("kind(4, 2, 1, 9), UNKNOWN ahead of OUTSIDE", x.kind(4, 2, 1, 9), -1);
        due("kind(-1, 9, 9, 9), none is told of", x.kind(-1, 9, 9, 9), -2);
        due("kind(min)", x.kind(Integer.MIN_VALUE, 0, 0, 0), -2);
        due("told(0), refused calls change nothing", x.told(0), 4);
        for (int i = 4; i < 10; i++) due("kind(0, ..)", x.kind(0, 0, 0, 0), i);
        due("kind(1, 10, ..), UNKNOWN ahead of FULL", x.kind(1, 10, 0, 0), -1);
        due("kind(5, 0, 1, 2), OUTSIDE ahead of FULL", x.kind(5, 0, 1, 2), -2);
        due("kind(1, 9, ..)", x.kind(1, 9, 0, 0), -4);
        due("told(0)", x.told(0), 10);
    }

    private static void bare() {
        promise = 3;
        AnswerLines x = roots(1);
        due("bare(0, false)", x.bare(0, false), 0);
        due("bare(0, true)", x.bare(0, true), 0);
        due("bare(0, true)", x.bare(0, true), 1);
        due("bare(0, false)", x.bare(0, false), 1);
        due("bare(0, true)", x.bare(0, true), 0);
        due("bare(1, true)", x.bare(1, true), -1);
        due("bare(-1, true)", x.bare(-1, true), -1);
        x.kind(0, 0, 0, 0);
        due("bare(1, false), a new KIND is not", x.bare(1, false), 0);
        due("told(20)", x.told(20), 1);
    }

    private static void of() {
        promise = 4;
        AnswerLines x = diamond();
        due("of(0, 0)", x.of(0, 0), 0);
        due("of(0, 1)", x.of(0, 1), 126);
        due("of(3, 0)", x.of(3, 0), 7);
        due("of(3, 1)", x.of(3, 1), 96);
        due("of(6, 0), without a LINE too", x.of(6, 0), 63);
        due("of(6, 1)", x.of(6, 1), 0);
        due("of(6, 2)", x.of(6, 2), -2);
        due("of(6, -1)", x.of(6, -1), -2);
        due("of(7, 0)", x.of(7, 0), -1);
        due("of(7, 2), UNKNOWN first", x.of(7, 2), -1);
        due("of(-1, 0)", x.of(-1, 0), -1);
    }

    private static void line() {
        promise = 5;
        AnswerLines x = diamond();
        row("line of 0", line(x, 0), 0);
        row("line of 3", line(x, 3), 3, 1, 2, 0);
        row("line of 4", line(x, 4), 4, 2, 1, 0);
        due("line(3, 4)", x.line(3, 4), -6);
        due("line(3, -2)", x.line(3, -2), -6);
        due("line(3, max)", x.line(3, Integer.MAX_VALUE), -6);
        due("line(3, min)", x.line(3, Integer.MIN_VALUE), -6);
        due("line(5, -1)", x.line(5, -1), -3);
        due("line(6, 0), BELOW one without", x.line(6, 0), -3);
        due("line(7, 0)", x.line(7, 0), -1);
        due("line(-1, 0)", x.line(-1, 0), -1);
        AnswerLines y = roots(4);
        y.kind(3, 0, 1, 2);
        y.kind(2, 3, 1, 0);
        y.kind(2, 3, 0, 0);
        y.kind(3, 4, 5, 6);
        row("line of 4", line(y, 4), 4, 0, 1, 2);
        due("line(5, -1)", y.line(5, -1), 3);
        row("line of 7: 0 waits for 3, which 6 has ahead of it", line(y, 7), 7, 4, 5, 6, 3, 0, 1, 2);
        AnswerLines z = roots(5);
        z.kind(3, 0, 1, 2);
        z.kind(3, 3, 1, 4);
        z.kind(2, 3, 0, 0);
        z.kind(3, 5, 6, 7);
        row("line of 8: 3 is held back by 6 and 7, and 0 by 3", line(z, 8), 8, 5, 6, 7, 3, 0, 1, 2, 4);
        AnswerLines w = roots(1);
        for (int i = 1; i < 10; i++) w.kind(1, i - 1, 0, 0);
        row("a chain of ten", line(w, 9), 9, 8, 7, 6, 5, 4, 3, 2, 1, 0);
    }

    private static void quarrel() {
        promise = 6;
        AnswerLines x = diamond();
        due("quarrel(3)", x.quarrel(3), -6);
        due("quarrel(5): 3 and 4 are laid first, then 1 against 2", x.quarrel(5), 6);
        due("quarrel(6)", x.quarrel(6), -5);
        due("quarrel(7)", x.quarrel(7), -1);
        due("quarrel(-1)", x.quarrel(-1), -1);
        x.kind(2, 0, 1, 0);
        due("quarrel(7): a KIND ahead of one BELOW it", x.quarrel(7), 3);
        x.kind(3, 0, 5, 1);
        due("quarrel(8): the PARENT without a LINE comes first", x.quarrel(8), -5);
        AnswerLines y = roots(3);
        y.kind(2, 0, 1, 0);
        y.kind(2, 1, 2, 0);
        y.kind(2, 2, 0, 0);
        y.kind(3, 3, 4, 5);
        due("quarrel(6): a ring of three", y.quarrel(6), 7);
        AnswerLines z = roots(4);
        z.kind(2, 0, 1, 0);
        z.kind(2, 1, 0, 0);
        z.kind(1, 3, 0, 0);
        z.kind(3, 4, 6, 5);
        due("quarrel(7): 6 and 3 go, empty rows say nothing", z.quarrel(7), 3);
    }

    private static void sayAndWipe() {
        promise = 7;
        AnswerLines x = new AnswerLines();
        due("say(32)", x.say(32), -2);
        due("say(127)", x.say(127), -2);
        due("say(-1)", x.say(-1), -2);
        due("say(33)", x.say(33), 1);
        due("say(126)", x.say(126), 2);
        for (int i = 3; i <= 12; i++) due("say('1')", x.say('1'), i);
        due("say('1'), a 13th", x.say('1'), -4);
        due("say(32), OUTSIDE ahead of FULL", x.say(32), -2);
        due("told(1)", x.told(1), 12);
        promise = 8;
        due("wipe()", x.wipe(), 12);
        due("wipe()", x.wipe(), 0);
        due("say('a')", x.say('a'), 1);
        due("wipe()", x.wipe(), 1);
    }

    private static void fault() {
        promise = 9;
        AnswerLines x = new AnswerLines();
        due("fault(), nothing", x.fault(), -6);
        pad(x, "0189ah^");
        due("fault()", x.fault(), -6);
        for (char sign = 33; sign <= 126; sign++) {
            boolean good = sign >= '0' && sign <= '9' || sign >= 'a' && sign <= 'h' || sign == '^';
            pad(x, "1" + sign);
            due("fault() of 1" + sign, x.fault(), good ? -6 : 1);
        }
        pad(x, "12ab^^12abci");
        due("fault(), the last of 12", x.fault(), 11);
        pad(x, "!!");
        due("fault(), the first of two", x.fault(), 0);
        x.wipe();
        due("fault(), wiped", x.fault(), -6);
    }

    private static void hasAndDrop() {
        promise = 10;
        AnswerLines x = roots(10);
        pad(x, "12");
        due("has(0, 0)", x.has(0, 0), 1);
        due("told(1), the PAD is empty", x.told(1), 0);
        pad(x, "7");
        due("has(0, 0), again", x.has(0, 0), 0);
        row("the BODY is the new one", said(x, 0, 0), 7);
        pad(x, "1!");
        due("has(0, 8), UNKNOWN ahead of NO", x.has(0, 8), -1);
        due("has(10, 0), UNKNOWN ahead of NO", x.has(10, 0), -1);
        due("has(0, -1)", x.has(0, -1), -1);
        due("has(-1, 0)", x.has(-1, 0), -1);
        due("has(0, 0), a FAULT", x.has(0, 0), -5);
        due("has(0, 1), a FAULT", x.has(0, 1), -5);
        due("told(1), it changes nothing", x.told(1), 2);
        row("the BODY stays", said(x, 0, 0), 7);
        due("told(10)", x.told(10), 1);
        x.wipe();
        due("has(9, 7), an empty BODY", x.has(9, 7), 1);
        due("run(9, 7, -1)", x.run(9, 7, -1), 0);
        due("run(9, 7, -2)", x.run(9, 7, -2), 0);
        due("told(19)", x.told(19), 128);
        promise = 11;
        give(x, 1, 3, "123^^1");
        due("drop(1, 3)", x.drop(1, 3), 6);
        due("drop(1, 3), again", x.drop(1, 3), -5);
        due("answer(1, 3)", x.answer(1, 3), -6);
        due("drop(9, 7)", x.drop(9, 7), 0);
        due("drop(10, 0)", x.drop(10, 0), -1);
        due("drop(0, 8)", x.drop(0, 8), -1);
        due("drop(-1, 0)", x.drop(-1, 0), -1);
        due("drop(0, -1)", x.drop(0, -1), -1);
        due("told(10), others stay", x.told(10), 1);
        due("has(1, 3), for the first time again", give(x, 1, 3, "5"), 1);
        row("with the new BODY", said(x, 1, 3), 5);
    }

    private static void answerAndNext() {
        promise = 12;
        AnswerLines x = diamond();
        due("answer(3, 0), nobody", x.answer(3, 0), -6);
        x.has(0, 0);
        x.has(1, 0);
        x.has(2, 0);
        due("answer(0, 0)", x.answer(0, 0), 0);
        due("answer(3, 0)", x.answer(3, 0), 1);
        due("answer(4, 0)", x.answer(4, 0), 2);
        due("answer(3, 1)", x.answer(3, 1), -6);
        due("answer(5, 0)", x.answer(5, 0), -3);
        due("answer(6, 0)", x.answer(6, 0), -3);
        due("answer(5, 8), UNKNOWN ahead of STATE", x.answer(5, 8), -1);
        due("answer(7, 0)", x.answer(7, 0), -1);
        due("answer(0, -1)", x.answer(0, -1), -1);
        x.bare(1, true);
        due("answer(3, 0), a BARE one answers", x.answer(3, 0), 1);
        promise = 13;
        due("next(3, 0, 3), behind one that does not HAVE it", x.next(3, 0, 3), 1);
        due("next(3, 0, 1)", x.next(3, 0, 1), 2);
        due("next(4, 0, 2)", x.next(4, 0, 2), 1);
        due("next(3, 0, 0)", x.next(3, 0, 0), -6);
        due("next(3, 1, 3)", x.next(3, 1, 3), -6);
        due("next(3, 0, 4), not in THE LINE", x.next(3, 0, 4), -1);
        due("next(3, 0, 7), no KIND", x.next(3, 0, 7), -1);
        due("next(3, 0, -1)", x.next(3, 0, -1), -1);
        due("next(3, 8, 3)", x.next(3, 8, 3), -1);
        due("next(7, 0, 0)", x.next(7, 0, 0), -1);
        due("next(5, 0, 0), no LINE", x.next(5, 0, 0), -3);
        due("next(5, 0, 6), STATE ahead of not in THE LINE", x.next(5, 0, 6), -3);
        due("next(5, 0, 7), no KIND at all ahead of STATE", x.next(5, 0, 7), -1);
        due("next(5, 8, 6)", x.next(5, 8, 6), -1);
    }

    private static void run() {
        promise = 14;
        AnswerLines x = diamond();
        due("run(3, 0, -1), nobody answers", x.run(3, 0, -1), 1);
        due("run(3, 0, -2)", x.run(3, 0, -2), 0);
        due("run(3, 0, 0)", x.run(3, 0, 0), -6);
        give(x, 0, 0, "1b");
        give(x, 1, 0, "2^3");
        give(x, 2, 0, "4^5");
        give(x, 3, 1, "6");
        give(x, 0, 1, "7");
        row("run of 3: each goes on to the next, names begin anew", said(x, 3, 0), 2, 4, 1, 6, 5, 3);
        row("run of 4", said(x, 4, 0), 4, 2, 1, 7, 3, 5);
        row("run of 1", said(x, 1, 0), 2, 1, 7, 3);
        due("run(3, 0, -1)", x.run(3, 0, -1), 0);
        due("run(3, 0, 6)", x.run(3, 0, 6), -6);
        due("run(3, 0, -3)", x.run(3, 0, -3), -6);
        due("run(5, 0, 0)", x.run(5, 0, 0), -3);
        due("run(5, 8, 0)", x.run(5, 8, 0), -1);
        due("run(7, 0, 0)", x.run(7, 0, 0), -1);
        due("run(0, -1, 0)", x.run(0, -1, 0), -1);
        give(x, 0, 2, "1^2");
        due("run(0, 2, -1), ^ at the last of THE LINE", x.run(0, 2, -1), 1);
        row("what was SAID ahead of the end", said(x, 0, 2), 1);
        give(x, 3, 2, "8c");
        due("run(3, 2, -1), itself over and over", x.run(3, 2, -1), 2);
        row("nine calls are open at most", said(x, 3, 2), 8, 8, 8, 8, 8, 8, 8, 8, 8);
        runLimits();
    }

    private static void runLimits() {
        AnswerLines x = roots(1);
        x.kind(1, 0, 0, 0);
        String[] chain = {"1b", "2c", "3d", "4e", "5f", "6g", "7h", "8"};
        for (int name = 0; name < 8; name++) give(x, 0, name, chain[name]);
        give(x, 1, 0, "9^");
        due("nine calls, one within the other", x.run(1, 0, -1), 0);
        due("run(1, 0, -2)", x.run(1, 0, -2), 9);
        give(x, 1, 1, "0^");
        due("a call within nine others", x.run(1, 0, -1), 2);
        due("run(1, 0, -2)", x.run(1, 0, -2), 9);
        due("run(1, 0, 8)", x.run(1, 0, 8), 7);

        AnswerLines y = roots(1);
        give(y, 0, 0, "bbbbbbbbbbbb");
        give(y, 0, 1, "cccccccccccc");
        give(y, 0, 2, "");
        due("1 + 12 + 144 calls", y.run(0, 0, -1), 0);
        give(y, 0, 3, "abcc1");
        due("1 + 157 + 13 + 2 calls", y.run(0, 3, -1), 0);
        give(y, 0, 3, "abbbccc1c2");
        due("1 + 157 + 39 + 3 calls are 200", y.run(0, 3, -1), 2);
        row("the 201st ends it", said(y, 0, 3), 1);
        give(y, 0, 3, "abbbccc1");
        due("200 calls", y.run(0, 3, -1), 0);

        AnswerLines z = roots(1);
        give(z, 0, 0, "1234567890");
        give(z, 0, 1, "aaaa");
        due("40 digits", z.run(0, 1, -1), 0);
        due("run(0, 1, -2)", z.run(0, 1, -2), 40);
        due("run(0, 1, 39)", z.run(0, 1, 39), 0);
        due("run(0, 1, 40)", z.run(0, 1, 40), -6);
        give(z, 0, 1, "aaaa5");
        due("a digit behind 40", z.run(0, 1, -1), 2);
        due("run(0, 1, -2)", z.run(0, 1, -2), 40);
    }

    private static void nearestAndDoubt() {
        promise = 15;
        AnswerLines x = diamond();
        due("nearest(3, 0), nobody", x.nearest(3, 0), 0);
        x.has(0, 0);
        due("nearest(6, 0)", x.nearest(6, 0), 1);
        x.has(1, 0);
        due("nearest(3, 0), 0 is ABOVE 1", x.nearest(3, 0), 2);
        x.has(2, 0);
        due("nearest(3, 0)", x.nearest(3, 0), 6);
        due("nearest(6, 0), without a LINE too", x.nearest(6, 0), 6);
        due("nearest(1, 0), itself", x.nearest(1, 0), 2);
        x.has(3, 0);
        due("nearest(6, 0)", x.nearest(6, 0), 8);
        due("nearest(7, 0)", x.nearest(7, 0), -1);
        due("nearest(0, 8)", x.nearest(0, 8), -1);
        due("nearest(-1, 0)", x.nearest(-1, 0), -1);
        due("nearest(0, -1)", x.nearest(0, -1), -1);
        promise = 16;
        due("doubt(0): 4 alone, 3 has its own and stands ABOVE 5", x.doubt(0), 16);
        x.drop(3, 0);
        due("doubt(0)", x.doubt(0), 120);
        due("doubt(1)", x.doubt(1), 0);
        due("doubt(8)", x.doubt(8), -1);
        due("doubt(-1)", x.doubt(-1), -1);
    }

    private static void settle() {
        promise = 17;
        AnswerLines x = diamond();
        x.has(1, 0);
        x.has(2, 0);
        due("settle(0, 0): 3, 4 and then 5 between them", x.settle(0, 0), 56);
        due("settle(0, 1)", x.settle(0, 1), 3);
        x.has(4, 0);
        due("settle(0, 0): 5 has 4 alone, if 3 has none; but 3 is in DOUBT", x.settle(0, 0), 40);
        due("settle(0, 2)", x.settle(0, 2), -2);
        due("settle(0, -1)", x.settle(0, -1), -2);
        due("settle(8, 2), UNKNOWN first", x.settle(8, 2), -1);
        due("settle(-1, 0)", x.settle(-1, 0), -1);
        due("settle(1, 1)", x.settle(1, 1), 0);
        AnswerLines y = roots(2);
        y.kind(2, 0, 1, 0);
        y.kind(1, 2, 0, 0);
        y.has(0, 5);
        y.has(1, 5);
        due("settle(5, 0): the upper one for all BELOW it", y.settle(5, 0), 4);
        y.has(3, 5);
        due("settle(5, 0)", y.settle(5, 0), 4);
        AnswerLines z = roots(2);
        for (int i = 2; i < 10; i++) z.kind(2, 0, 1, 0);
        z.has(0, 7);
        z.has(1, 7);
        due("settle(7, 0), eight beside one another", z.settle(7, 0), 1020);
        due("settle(7, 1)", z.settle(7, 1), 8);
    }

    private static void shift() {
        promise = 18;
        AnswerLines x = diamond();
        due("shift(0, 0): all with a LINE for the first time", x.shift(0, 0), 31);
        x.bare(3, true);
        due("shift(0, 0), BARE ones too", x.shift(0, 0), 31);
        x.has(0, 0);
        due("shift(0, 0), it HAS it", x.shift(0, 0), -5);
        due("shift(1, 0)", x.shift(1, 0), 26);
        x.has(2, 0);
        due("shift(1, 0): 2 is ahead in the line of 4", x.shift(1, 0), 10);
        due("shift(5, 0), no LINE", x.shift(5, 0), 0);
        due("told(15), nothing is changed", x.told(15), 0);
        due("shift(7, 0)", x.shift(7, 0), -1);
        due("shift(0, 8)", x.shift(0, 8), -1);
        due("shift(-1, 0)", x.shift(-1, 0), -1);
        due("shift(0, -1)", x.shift(0, -1), -1);
    }

    private static int[] columns(AnswerLines x) {
        int[] row = new int[8];
        for (int name = 0; name < 8; name++) row[name] = x.column(name);
        return row;
    }

    private static void column() {
        promise = 19;
        AnswerLines x = roots(4);
        due("column(-1)", x.column(-1), 0);
        due("column(0)", x.column(0), -6);
        due("column(8)", x.column(8), -1);
        due("column(-2)", x.column(-2), -1);
        int[][] pairs = {{0, 7}, {7, 1}, {1, 2}, {2, 6}};
        for (int kind = 0; kind < 4; kind++) for (int name : pairs[kind]) x.has(kind, name);
        due("column(-1), a path of names", x.column(-1), 2);
        row("0 and 1 together, 2 and 7 together, 6 with the first", columns(x), 0, 0, 1, -6, -6, -6, 0, 1);
        AnswerLines y = roots(6);
        int[][] crown = {{0, 3}, {0, 5}, {2, 1}, {2, 5}, {4, 1}, {4, 3}};
        for (int kind = 0; kind < 6; kind++) for (int name : crown[kind]) y.has(kind, name);
        due("column(-1): whoever puts 1 to 0 needs three", y.column(-1), 2);
        row("few columns come ahead of the first way", columns(y), 0, 1, 0, 1, 0, 1, -6, -6);
        AnswerLines z = roots(2);
        z.kind(1, 0, 0, 0);
        for (int name = 0; name < 8; name++) z.has(0, name);
        due("column(-1), all eight", z.column(-1), 8);
        row("each its own", columns(z), 0, 1, 2, 3, 4, 5, 6, 7);
        z.bare(0, true);
        due("column(-1), 2 has them all from a BARE one", z.column(-1), 8);
        z.bare(2, true);
        due("column(-1), nothing is left", z.column(-1), 0);
        AnswerLines w = diamond();
        w.has(5, 0);
        w.has(5, 1);
        due("column(-1), no LINE", w.column(-1), 0);
    }

    private static void packed() {
        promise = 20;
        AnswerLines x = roots(3);
        due("packed(-1)", x.packed(-1), 0);
        due("packed(0), nothing in it", x.packed(0), -6);
        x.has(0, 1);
        x.has(0, 3);
        x.has(1, 0);
        x.has(1, 1);
        x.has(2, 7);
        due("packed(0): never ahead of 0", x.packed(0), 0);
        due("packed(1): 0, 1 into 4, 5", x.packed(1), 4);
        due("packed(2)", x.packed(2), 0);
        due("packed(-1)", x.packed(-1), 8);
        due("packed(3)", x.packed(3), -1);
        due("packed(-2)", x.packed(-2), -1);
        promise = 21;
        int[] want = {-6, 1, -6, 3, 10, 11, -6, 27, -6};
        for (int i = 0; i < want.length; i++) due("slot(" + i + ")", x.slot(i), want[i]);
        due("slot(99)", x.slot(99), -6);
        due("slot(100)", x.slot(100), -2);
        due("slot(-1)", x.slot(-1), -2);
        x.bare(0, true);
        due("slot(0), the rows move up", x.slot(0), 10);
        promise = 20;
        due("packed(0), BARE", x.packed(0), -6);
        due("packed(1)", x.packed(1), 0);
        AnswerLines y = roots(1);
        for (int i = 1; i < 10; i++) y.kind(1, 0, 0, 0);
        for (int name = 0; name < 8; name++) y.has(0, name);
        due("packed(-1), the most there can be", y.packed(-1), 80);
        due("packed(9)", y.packed(9), 72);
        promise = 21;
        due("slot(79)", y.slot(79), 97);
        due("slot(80)", y.slot(80), -6);
        promise = 20;
        AnswerLines z = diamond();
        z.has(5, 0);
        due("packed(5), no LINE", z.packed(5), -6);
        due("packed(-1)", z.packed(-1), 0);
    }

    private static void one() {
        promise = 22;
        AnswerLines x = diamond();
        due("one(0, 0, 0), nobody", x.one(0, 0, 0), 0);
        x.has(0, 0);
        due("one(0, 0, 0)", x.one(0, 0, 0), 1);
        x.has(1, 0);
        x.has(2, 0);
        x.has(5, 0);
        due("one(0, 0, 0), 5 has no LINE", x.one(0, 0, 0), 7);
        due("one(0, 0, 1)", x.one(0, 0, 1), 3);
        due("one(1, 0, 0): 4 is answered by 2", x.one(1, 0, 0), 6);
        due("one(3, 0, 1)", x.one(3, 0, 1), 1);
        x.bare(0, true);
        due("one(0, 0, 0), no things of 0", x.one(0, 0, 0), 6);
        x.bare(1, true);
        due("one(1, 0, 0), BARE ones answer for those BELOW", x.one(1, 0, 0), 6);
        due("one(5, 0, 0)", x.one(5, 0, 0), 0);
        due("one(7, 0, 0)", x.one(7, 0, 0), -1);
        due("one(0, 8, 0)", x.one(0, 8, 0), -1);
        due("one(0, 8, 2), UNKNOWN first", x.one(0, 8, 2), -1);
        due("one(0, 0, 2)", x.one(0, 0, 2), -2);
        due("one(0, 0, -1)", x.one(0, 0, -1), -2);
    }

    private static void callAndForget() {
        promise = 23;
        AnswerLines x = roots(2);
        due("call(0, 2)", x.call(0, 2), -1);
        due("call(4, 0)", x.call(4, 0), -1);
        due("call(-1, 0)", x.call(-1, 0), -1);
        due("call(0, -1)", x.call(0, -1), -1);
        for (int i = 1; i <= 40; i++) due("call", x.call(i % 4, i % 2), i);
        due("call(0, 0), a 41st", x.call(0, 0), -4);
        due("call(0, 2), UNKNOWN ahead of FULL", x.call(0, 2), -1);
        due("hits(0, 0)", x.hits(0, 0), 10);
        promise = 24;
        x.size(2, 3);
        due("forget()", x.forget(), 40);
        due("forget()", x.forget(), 0);
        due("hits(0, 0)", x.hits(0, 0), 0);
        due("hits(0, 10)", x.hits(0, 10), -6);
        due("size(2, 3), SIZES stay", x.size(2, 3), 3);
        due("call(3, 1)", x.call(3, 1), 1);
    }

    private static void size() {
        promise = 25;
        AnswerLines x = roots(1);
        due("size(0, 4)", x.size(0, 4), 1);
        due("size(0, 2)", x.size(0, 2), 4);
        due("size(0, 0)", x.size(0, 0), -2);
        due("size(0, 5)", x.size(0, 5), -2);
        due("size(4, 1)", x.size(4, 1), -1);
        due("size(-1, 9), UNKNOWN first", x.size(-1, 9), -1);
        due("size(0, 1)", x.size(0, 1), 2);
        due("size(3, 1), others stay", x.size(3, 1), 1);
    }

    private static void hitsAndNeed() {
        promise = 26;
        AnswerLines x = roots(5);
        int[] row = {0, 1, 2, 3, 0, 1, 4, 0, 1, 2, 3, 4};
        for (int kind : row) {
            x.call(2, kind);
            x.call(1, 0);
        }
        due("hits(2, 0)", x.hits(2, 0), 12);
        due("hits(1, 1), the same again and again", x.hits(1, 1), 11);
        due("hits(1, 2)", x.hits(1, 2), 11);
        due("hits(0, 1)", x.hits(0, 1), 0);
        int[] last = {0, 0, 2, 4};
        int[] best = {0, 3, 5, 6};
        for (int v = 1; v <= 4; v++) {
            x.size(2, v);
            due("HITS by SIZE " + v, x.hits(2, 1), last[v - 1]);
            due("BEST by SIZE " + v, x.hits(2, 2), best[v - 1]);
            for (int i = 0; i < 4; i++) due("remembered " + i, x.hits(2, 10 + i), i < v ? 4 - i : -6);
        }
        x.call(2, 2);
        due("hits(2, 10), a HIT is the latest too", x.hits(2, 10), 2);
        due("hits(2, 11)", x.hits(2, 11), 4);
        due("hits(2, 12)", x.hits(2, 12), 3);
        due("hits(2, 13)", x.hits(2, 13), 1);
        x.size(1, 4);
        due("hits(1, 11), one KIND only", x.hits(1, 11), -6);
        AnswerLines y = roots(3);
        y.size(0, 2);
        for (int kind : new int[] {0, 1, 0, 0, 1}) y.call(0, kind);
        due("hits(0, 2), nothing goes at a HIT", y.hits(0, 2), 3);
        y.forget();
        for (int kind : new int[] {0, 1, 2, 0, 2, 1, 0}) y.call(0, kind);
        due("hits(0, 2), the very next call counts", y.hits(0, 2), 3);
        due("hits(0, 1)", y.hits(0, 1), 1);
        for (int what : new int[] {-1, 3, 9, 14, Integer.MIN_VALUE}) due("hits(0, " + what + ")", x.hits(0, what), -2);
        due("hits(4, 3), UNKNOWN first", x.hits(4, 3), -1);
        due("hits(-1, 0)", x.hits(-1, 0), -1);
        promise = 27;
        due("need(2, 0)", x.need(2, 0), 1);
        due("need(2, 1)", x.need(2, 1), 3);
        due("need(2, 2)", x.need(2, 2), 3);
        due("need(2, 3), with the last call", x.need(2, 3), 3);
        due("need(2, 4)", x.need(2, 4), 4);
        due("need(2, 5), with the last call", x.need(2, 5), 4);
        due("need(2, 6), BEST does not count", x.need(2, 6), -6);
        due("need(1, 11)", x.need(1, 11), 1);
        due("need(0, 0), no calls", x.need(0, 0), 1);
        due("need(0, 1)", x.need(0, 1), -6);
        due("need(2, 40)", x.need(2, 40), -6);
        due("need(2, 41)", x.need(2, 41), -2);
        due("need(2, -1)", x.need(2, -1), -2);
        due("need(4, -1), UNKNOWN first", x.need(4, -1), -1);
        due("need(-1, 0)", x.need(-1, 0), -1);
        due("size(2, 1), NEED leaves SIZE as it is", x.size(2, 1), 4);
    }

    private static void told() {
        promise = 28;
        AnswerLines x = roots(3);
        x.has(1, 0);
        x.has(1, 6);
        x.bare(2, true);
        x.say('1');
        x.call(0, 0);
        x.call(1, 0);
        due("told(0)", x.told(0), 3);
        due("told(1)", x.told(1), 1);
        due("told(2)", x.told(2), 2);
        due("told(10)", x.told(10), 0);
        due("told(11)", x.told(11), 65);
        due("told(19)", x.told(19), 0);
        due("told(21)", x.told(21), 0);
        due("told(22)", x.told(22), 1);
        due("told(29)", x.told(29), 0);
        for (int what : new int[] {-1, 3, 9, 30, Integer.MAX_VALUE, Integer.MIN_VALUE}) {
            due("told(" + what + ")", x.told(what), -2);
        }
    }

    public static void main(String[] args) {
        theFace();
        newObject();
        kind();
        bare();
        of();
        line();
        quarrel();
        sayAndWipe();
        fault();
        hasAndDrop();
        answerAndNext();
        run();
        nearestAndDoubt();
        settle();
        shift();
        column();
        packed();
        one();
        callAndForget();
        size();
        hitsAndNeed();
        told();
        for (int i = 1; i < checks.length; i++) {
            if (checks[i] == 0) {
                wrong++;
                System.out.println("promise " + i + " has no check");
            }
        }
        System.out.println(wrong == 0 ? "all promises hold" : wrong + " answers are not as due");
        if (wrong != 0) System.exit(1);
    }
}
