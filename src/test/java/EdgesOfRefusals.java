import java.util.ArrayList;
import java.util.List;
import java.util.function.ToIntFunction;

/** The order in which calls are refused, and that refused ones change nothing. */
final class EdgesOfRefusals {
    static final int MIN = Integer.MIN_VALUE, MAX = Integer.MAX_VALUE;

    static void all() {
        constants();
        unknownAheadOfOutside();
        unknownAheadOfState();
        unknownAheadOfFull();
        unknownAheadOfNo();
        outsideAheadOfFull();
        nothingIsChangedHalfFilled();
        nothingIsChangedFull();
        questionsChangeNothing();
    }

    private static void constants() {
        Held.says("The constants: `UNKNOWN = -1, OUTSIDE = -2, STATE = -3, FULL = -4, NO = -5, NONE = -6`:"
            + " What refused calls answer; NONE: there is none.");
        Held.due("UNKNOWN", AnswerLines.UNKNOWN, -1);
        Held.due("OUTSIDE", AnswerLines.OUTSIDE, -2);
        Held.due("STATE", AnswerLines.STATE, -3);
        Held.due("FULL", AnswerLines.FULL, -4);
        Held.due("NO", AnswerLines.NO, -5);
        Held.due("NONE", AnswerLines.NONE, -6);
    }

    private static final String ORDER = "Calls that are refused answer, the first of these that fits:"
        + " UNKNOWN -1 (there is no such KIND, NAME, PLACE), OUTSIDE -2 (another number is not as told), STATE -3 (as told),"
        + " FULL -4, NO -5 (as told).";

    private static void unknownAheadOfOutside() {
        Held.says(ORDER);
        AnswerLines x = Held.roots(3);
        for (int n : new int[] {4, 5, MAX}) {
            Held.due("kind(" + n + ", 3, 0, 1)", x.kind(n, 3, 0, 1), -1);
            Held.due("kind(" + n + ", 0, -1, 1)", x.kind(n, 0, -1, 1), -1);
            Held.due("kind(" + n + ", 0, 1, 3)", x.kind(n, 0, 1, 3), -1);
            Held.due("kind(" + n + ", 0, 1, 0), one told twice", x.kind(n, 0, 1, 0), -1);
            Held.due("kind(" + n + ", 0, 1, 2)", x.kind(n, 0, 1, 2), -2);
        }
        Held.due("kind(-1, 3, 3, 3), none of these is a PARENT", x.kind(-1, 3, 3, 3), -2);
        Held.due("kind(min, 3, 3, 3)", x.kind(MIN, 3, 3, 3), -2);
        Held.due("of(3, 2)", x.of(3, 2), -1);
        Held.due("settle(8, 2)", x.settle(8, 2), -1);
        Held.due("one(3, 0, 2), the KIND", x.one(3, 0, 2), -1);
        Held.due("one(0, 8, 2), the NAME", x.one(0, 8, 2), -1);
        Held.due("size(4, 0)", x.size(4, 0), -1);
        Held.due("size(-1, 5)", x.size(-1, 5), -1);
        Held.due("hits(4, 3)", x.hits(4, 3), -1);
        Held.due("hits(-1, 14)", x.hits(-1, 14), -1);
        Held.due("need(4, 41)", x.need(4, 41), -1);
        Held.due("need(-1, -1)", x.need(-1, -1), -1);
    }

    private static void unknownAheadOfState() {
        Held.says(ORDER);
        AnswerLines x = Held.made("", "0", "01");
        Held.due("line(2, 99), STATE ahead of NONE", x.line(2, 99), -3);
        Held.due("answer(2, 8)", x.answer(2, 8), -1);
        Held.due("answer(2, -1)", x.answer(2, -1), -1);
        Held.due("answer(2, 0)", x.answer(2, 0), -3);
        Held.due("next(2, 8, 0)", x.next(2, 8, 0), -1);
        Held.due("next(2, 0, 3), no such KIND", x.next(2, 0, 3), -1);
        Held.due("next(2, 0, -1), no such KIND", x.next(2, 0, -1), -1);
        Held.due("next(2, 0, 1)", x.next(2, 0, 1), -3);
        Held.due("run(2, 8, -1)", x.run(2, 8, -1), -1);
        Held.due("run(2, -1, 99)", x.run(2, -1, 99), -1);
        Held.due("run(2, 0, 99), STATE ahead of NONE", x.run(2, 0, 99), -3);
    }

    private static void unknownAheadOfFull() {
        Held.says(ORDER);
        AnswerLines x = Held.roots(10);
        Held.due("kind(1, 10, ..)", x.kind(1, 10, 0, 0), -1);
        Held.due("kind(2, 5, 5, ..)", x.kind(2, 5, 5, 0), -1);
        Held.due("kind(3, 0, 1, -1)", x.kind(3, 0, 1, -1), -1);
        Held.due("kind(4, 0, 1, 10), ahead of both", x.kind(4, 0, 1, 10), -1);
        Held.due("kind(0, 10, 10, 10), which are no PARENTS", x.kind(0, 10, 10, 10), -4);
        for (int i = 0; i < 40; i++) x.call(0, 0);
        Held.due("call(4, 0)", x.call(4, 0), -1);
        Held.due("call(0, 10)", x.call(0, 10), -1);
        Held.due("call(-1, -1)", x.call(-1, -1), -1);
        Held.due("call(0, 0)", x.call(0, 0), -4);
    }

    private static void unknownAheadOfNo() {
        Held.says(ORDER);
        AnswerLines x = Held.roots(1);
        x.say('i');
        Held.due("has(1, 0)", x.has(1, 0), -1);
        Held.due("has(0, 8)", x.has(0, 8), -1);
        Held.due("has(0, 0)", x.has(0, 0), -5);
        Held.due("drop(1, 0)", x.drop(1, 0), -1);
        Held.due("drop(0, 8)", x.drop(0, 8), -1);
        Held.due("drop(0, 0)", x.drop(0, 0), -5);
        x.wipe();
        x.has(0, 0);
        Held.due("shift(1, 0)", x.shift(1, 0), -1);
        Held.due("shift(0, 8)", x.shift(0, 8), -1);
        Held.due("shift(0, 0)", x.shift(0, 0), -5);
        AnswerLines y = Held.made("", "0", "01", "2");
        Held.due("quarrel(3)", y.quarrel(3), -5);
        Held.due("quarrel(4)", y.quarrel(4), -1);
    }

    private static void outsideAheadOfFull() {
        Held.says(ORDER);
        AnswerLines x = Held.roots(10);
        Held.due("kind(4, 0, 1, 2)", x.kind(4, 0, 1, 2), -2);
        Held.due("kind(-1, 0, 1, 2)", x.kind(-1, 0, 1, 2), -2);
        Held.due("kind(3, 0, 1, 2)", x.kind(3, 0, 1, 2), -4);
        Held.pad(x, "111111111111");
        Held.due("say(32)", x.say(32), -2);
        Held.due("say(127)", x.say(127), -2);
        Held.due("say(33)", x.say(33), -4);
    }

    /** Six KINDS, 5 without a LINE, NAMES from all sides, a FAULT on the PAD, calls, SIZES. */
    private static AnswerLines halfFilled() {
        AnswerLines x = Held.made("", "0", "0", "12", "21", "34");
        Held.give(x, 0, 0, "1b");
        Held.give(x, 1, 0, "2^c");
        Held.give(x, 2, 0, "3^");
        Held.give(x, 4, 1, "4");
        Held.give(x, 0, 2, "5");
        Held.give(x, 5, 3, "6");
        x.bare(2, true);
        x.size(1, 3);
        Held.calls(x, 1, 0, 1, 2, 0, 3, 1);
        Held.calls(x, 0, 4, 4);
        Held.pad(x, "1i");
        return x;
    }

    /** Ten KINDS, twelve signs, forty calls. */
    private static AnswerLines full() {
        AnswerLines x = Held.made("", "0", "0", "12", "21", "34", "5", "", "7", "38");
        Held.give(x, 0, 0, "1b");
        Held.give(x, 7, 1, "2");
        Held.give(x, 9, 0, "3^");
        x.bare(8, true);
        x.size(2, 4);
        for (int i = 0; i < 40; i++) x.call(i % 3, i * i % 7);
        Held.pad(x, "abcdefgh^^01");
        return x;
    }

    /** All that can be asked of an object, the PAD and the SIZES last. */
    private static List<Integer> state(AnswerLines x) {
        List<Integer> all = new ArrayList<>();
        for (int what = 0; what < 30; what++) all.add(x.told(what));
        for (int kind = 0; kind < 10; kind++) {
            all.add(x.line(kind, -1));
            all.add(x.quarrel(kind));
            all.add(x.of(kind, 0));
            all.add(x.packed(kind));
            for (int name = 0; name < 4; name++) all.add(x.answer(kind, name));
            for (int name = 0; name < 4; name++) all.add(x.run(kind, name, -2) * 10 + x.run(kind, name, -1));
        }
        for (int name = 0; name < 8; name++) all.add(x.column(name));
        for (int place = 0; place < 4; place++) {
            for (int what : new int[] {0, 1, 2, 10, 11, 12, 13}) all.add(x.hits(place, what));
        }
        all.add(x.fault());
        all.add(x.told(1));
        while (x.fault() != -6) x.wipe();
        x.has(0, 7);
        for (int i = -2; i < 12; i++) all.add(x.run(0, 7, i));
        all.add(x.drop(0, 7));
        for (int place = 0; place < 4; place++) all.add(x.size(place, 1));
        return all;
    }

    private static void keeps(String call, AnswerLines x, ToIntFunction<AnswerLines> refused, int want, List<Integer> before) {
        Held.due(call, refused.applyAsInt(x), want);
        Held.due(call + ": all is as before", state(x).equals(before) ? 1 : 0, 1);
    }

    private static void half(String call, ToIntFunction<AnswerLines> refused, int want) {
        keeps(call, halfFilled(), refused, want, state(halfFilled()));
    }

    private static void filled(String call, ToIntFunction<AnswerLines> refused, int want) {
        keeps(call, full(), refused, want, state(full()));
    }

    private static void nothingIsChangedHalfFilled() {
        Held.says("They change nothing.");
        half("kind(1, 6, ..)", x -> x.kind(1, 6, 0, 0), -1);
        half("kind(2, 0, 0, ..)", x -> x.kind(2, 0, 0, 1), -1);
        half("kind(3, 0, 1, 6)", x -> x.kind(3, 0, 1, 6), -1);
        half("kind(4, 0, 1, 2)", x -> x.kind(4, 0, 1, 2), -2);
        half("kind(-1, ..)", x -> x.kind(-1, 0, 1, 2), -2);
        half("bare(6, true)", x -> x.bare(6, true), -1);
        half("bare(-1, true)", x -> x.bare(-1, true), -1);
        half("say(32)", x -> x.say(32), -2);
        half("say(127)", x -> x.say(127), -2);
        half("has(6, 0)", x -> x.has(6, 0), -1);
        half("has(0, 8)", x -> x.has(0, 8), -1);
        half("has(0, 0), a FAULT", x -> x.has(0, 0), -5);
        half("has(3, 3), a FAULT", x -> x.has(3, 3), -5);
        half("drop(6, 0)", x -> x.drop(6, 0), -1);
        half("drop(0, 8)", x -> x.drop(0, 8), -1);
        half("drop(3, 0)", x -> x.drop(3, 0), -5);
        half("call(4, 0)", x -> x.call(4, 0), -1);
        half("call(0, 6)", x -> x.call(0, 6), -1);
        half("size(4, 2)", x -> x.size(4, 2), -1);
        half("size(1, 0)", x -> x.size(1, 0), -2);
        half("size(1, 5)", x -> x.size(1, 5), -2);
    }

    private static void nothingIsChangedFull() {
        Held.says("They change nothing.");
        filled("kind(0, ..)", x -> x.kind(0, 0, 0, 0), -4);
        filled("kind(3, 0, 7, 9)", x -> x.kind(3, 7, 8, 9), -4);
        filled("say('1')", x -> x.say('1'), -4);
        filled("say('i')", x -> x.say('i'), -4);
        for (int place = 0; place < 4; place++) {
            int at = place;
            filled("call(" + at + ", 1)", x -> x.call(at, 1), -4);
        }
        filled("bare(10, true)", x -> x.bare(10, true), -1);
        filled("has(10, 0)", x -> x.has(10, 0), -1);
        filled("has(9, 8)", x -> x.has(9, 8), -1);
        filled("drop(9, 8)", x -> x.drop(9, 8), -1);
        filled("drop(9, 1)", x -> x.drop(9, 1), -5);
        filled("call(4, 10)", x -> x.call(4, 10), -1);
        filled("size(4, 5)", x -> x.size(4, 5), -1);
    }

    /** What only asks leaves all as it is, whether it is refused or not. */
    private static void questionsChangeNothing() {
        Held.says("They change nothing.");
        half("line(5, 0)", x -> x.line(5, 0), -3);
        half("answer(5, 0)", x -> x.answer(5, 0), -3);
        half("next(5, 0, 0)", x -> x.next(5, 0, 0), -3);
        half("next(3, 0, 4)", x -> x.next(3, 0, 4), -1);
        half("run(5, 0, -1)", x -> x.run(5, 0, -1), -3);
        half("run(0, 8, -1)", x -> x.run(0, 8, -1), -1);
        half("quarrel(6)", x -> x.quarrel(6), -1);
        half("nearest(6, 0)", x -> x.nearest(6, 0), -1);
        half("settle(0, 2)", x -> x.settle(0, 2), -2);
        half("settle(0, 0)", x -> x.settle(0, 0), 56);
        half("shift(0, 0)", x -> x.shift(0, 0), -5);
        half("shift(3, 0)", x -> x.shift(3, 0), 8);
        half("column(8)", x -> x.column(8), -1);
        half("packed(6)", x -> x.packed(6), -1);
        half("slot(100)", x -> x.slot(100), -2);
        half("one(0, 0, 2)", x -> x.one(0, 0, 2), -2);
        half("hits(0, 3)", x -> x.hits(0, 3), -2);
        half("need(1, 41)", x -> x.need(1, 41), -2);
        half("need(1, 1)", x -> x.need(1, 1), 3);
        half("told(3)", x -> x.told(3), -2);
    }

    private EdgesOfRefusals() {
    }
}
