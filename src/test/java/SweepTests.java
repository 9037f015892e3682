import java.util.ArrayList;
import java.util.Arrays;
import java.util.List;

/**
 * Each call with all ways of putting its edge numbers together, in states from empty to full, held against
 * the model. A call is made on an object of its own, so that what it changes is seen.
 */
public final class SweepTests {
    private static final int MIN = Integer.MIN_VALUE, MAX = Integer.MAX_VALUE;
    private static int wrong = 0;
    private static long checks = 0;

    /** An object and its model, told the same. */
    private static final class Pair {
        final AnswerLines x = new AnswerLines();
        final Model model = new Model();

        /** KINDS by their PARENTS, then NAMES as "kind name body", BARE ones, SIZES, calls as "place kind", the PAD. */
        Pair(String parents, String names, String bare, String sizes, String calls, String pad) {
            for (String told : parents.split(" ")) if (!told.isEmpty()) tellKind(told.equals("-") ? "" : told);
            for (String told : names.split(" ")) if (!told.isEmpty()) tellName(told);
            for (char kind : bare.toCharArray()) ask("bare", kind - '0', 1);
            for (int place = 0; place < sizes.length(); place++) ask("size", place, sizes.charAt(place) - '0');
            for (String told : calls.split(" ")) if (!told.isEmpty()) ask("call", told.charAt(0) - '0', told.charAt(1) - '0');
            for (char sign : pad.toCharArray()) ask("say", sign);
        }

        void tellKind(String told) {
            int[] p = {0, 0, 0};
            for (int i = 0; i < told.length(); i++) p[i] = told.charAt(i) - '0';
            ask("kind", told.length(), p[0], p[1], p[2]);
        }

        void tellName(String told) {
            for (char sign : told.substring(2).toCharArray()) ask("say", sign);
            ask("has", told.charAt(0) - '0', told.charAt(1) - '0');
        }

        void ask(String call, int... n) {
            checks++;
            int got = answer(x, call, n);
            int want = answer(model, call, n);
            if (got == want) return;
            if (wrong++ < 20) System.out.println(call + Arrays.toString(n) + " answered " + got + ", due is " + want);
        }

        /** What a call may have changed. */
        void askState() {
            for (int what = 0; what < 30; what++) ask("told", what);
            int count = Math.max(0, model.told(0));
            for (int kind = 0; kind < count; kind++) {
                ask("line", kind, -1);
                ask("quarrel", kind);
                ask("of", kind, 1);
                ask("packed", kind);
            }
            for (int place = 0; place < 4; place++) for (int what : new int[] {0, 1, 2, 10, 13}) ask("hits", place, what);
            ask("fault");
        }
    }

    private static int answer(AnswerLines x, String call, int[] n) {
        switch (call) {
            case "kind": return x.kind(n[0], n[1], n[2], n[3]);
            case "bare": return x.bare(n[0], n[1] != 0);
            case "of": return x.of(n[0], n[1]);
            case "line": return x.line(n[0], n[1]);
            case "quarrel": return x.quarrel(n[0]);
            case "say": return x.say(n[0]);
            case "wipe": return x.wipe();
            case "fault": return x.fault();
            case "has": return x.has(n[0], n[1]);
            case "drop": return x.drop(n[0], n[1]);
            case "answer": return x.answer(n[0], n[1]);
            case "next": return x.next(n[0], n[1], n[2]);
            case "run": return x.run(n[0], n[1], n[2]);
            case "nearest": return x.nearest(n[0], n[1]);
            case "doubt": return x.doubt(n[0]);
            case "settle": return x.settle(n[0], n[1]);
            case "shift": return x.shift(n[0], n[1]);
            case "column": return x.column(n[0]);
            case "packed": return x.packed(n[0]);
            case "slot": return x.slot(n[0]);
            case "one": return x.one(n[0], n[1], n[2]);
            case "call": return x.call(n[0], n[1]);
            case "forget": return x.forget();
            case "size": return x.size(n[0], n[1]);
            case "hits": return x.hits(n[0], n[1]);
            case "need": return x.need(n[0], n[1]);
            case "told": return x.told(n[0]);
            default: throw new IllegalStateException(call);
        }
    }

    private static int answer(Model x, String call, int[] n) {
        switch (call) {
            case "kind": return x.kind(n[0], n[1], n[2], n[3]);
            case "bare": return x.bare(n[0], n[1] != 0);
            case "of": return x.of(n[0], n[1]);
            case "line": return x.line(n[0], n[1]);
            case "quarrel": return x.quarrel(n[0]);
            case "say": return x.say(n[0]);
            case "wipe": return x.wipe();
            case "fault": return x.fault();
            case "has": return x.has(n[0], n[1]);
            case "drop": return x.drop(n[0], n[1]);
            case "answer": return x.answer(n[0], n[1]);
            case "next": return x.next(n[0], n[1], n[2]);
            case "run": return x.run(n[0], n[1], n[2]);
            case "nearest": return x.nearest(n[0], n[1]);
            case "doubt": return x.doubt(n[0]);
            case "settle": return x.settle(n[0], n[1]);
            case "shift": return x.shift(n[0], n[1]);
            case "column": return x.column(n[0]);
            case "packed": return x.packed(n[0]);
            case "slot": return x.slot(n[0]);
            case "one": return x.one(n[0], n[1], n[2]);
            case "call": return x.call(n[0], n[1]);
            case "forget": return x.forget();
            case "size": return x.size(n[0], n[1]);
            case "hits": return x.hits(n[0], n[1]);
            case "need": return x.need(n[0], n[1]);
            case "told": return x.told(n[0]);
            default: throw new IllegalStateException(call);
        }
    }

    private static final String DIAMOND = "- 0 0 12 21 34 5";
    private static final String FORTY = "00 01 02 03 00 01 14 10 20 21 22 23 24 30 00 01 02 03 00 01 "
        + "14 10 20 21 22 23 24 30 31 31 31 30 30 00 01 04 03 02 01 00 ";

    private static Pair state(int i) {
        switch (i) {
            case 0: return new Pair("", "", "", "", "", "");
            case 1: return new Pair("-", "", "", "", "", "i");
            case 2: return new Pair("- 0 01", "001b 11^ 27", "1", "12", "00 01 01 12", "1^a");
            case 3: return new Pair(DIAMOND, "001b 102^ 203^ 415^ 01c 026 22 57a", "2", "3142",
                "01 02 03 01 06 15 15 16 14 15", "12345678901i");
            case 4: return new Pair("- 0 1 2 3 4 5 6 7 8", "000 101^ 202^ 303^ 404^ 505^ 606^ 707^ 808^ 909^ 011bb 97^",
                "09", "4321", FORTY, "123456789012");
            case 5: return new Pair("- - - 01 12 20 345 01 0 78", "00 11 22 33 44 55 66 77 80 91 012cc 1212 22c1", "",
                "2222", FORTY, "");
            default: return null;
        }
    }

    /** All ways of putting one of each row together. */
    private static List<int[]> ways(int[]... rows) {
        List<int[]> all = new ArrayList<>();
        all.add(new int[0]);
        for (int[] row : rows) {
            List<int[]> longer = new ArrayList<>();
            for (int[] head : all) {
                for (int n : row) {
                    int[] way = Arrays.copyOf(head, head.length + 1);
                    way[head.length] = n;
                    longer.add(way);
                }
            }
            all = longer;
        }
        return all;
    }

    private static void changing(int state, String call, int[]... rows) {
        for (int[] way : ways(rows)) {
            Pair pair = state(state);
            pair.ask(call, way);
            pair.askState();
        }
    }

    /** Questions share an object as long as it is used for fewer than 512 calls. */
    private static void asking(int state, String call, int[]... rows) {
        Pair pair = state(state);
        int asked = 0;
        for (int[] way : ways(rows)) {
            if (++asked % 300 == 0) pair = state(state);
            pair.ask(call, way);
        }
    }

    private static final int[] KINDS = {MIN, -2, -1, 0, 1, 2, 3, 4, 5, 6, 7, 8, 9, 10, 32, MAX};
    private static final int[] FEW_KINDS = {-1, 0, 1, 2, 3, 7, 9, 10, MAX};
    private static final int[] NAMES = {MIN, -2, -1, 0, 1, 2, 3, 4, 5, 6, 7, 8, 32, MAX};
    private static final int[] PLACES = {MIN, -1, 0, 1, 2, 3, 4, MAX};
    private static final int[] WHATS = {MIN, -1, 0, 1, 2, 3, MAX};

    private static int[] range(int low, int high) {
        int[] row = new int[high - low + 3];
        for (int i = low; i <= high; i++) row[i - low] = i;
        row[row.length - 2] = MIN;
        row[row.length - 1] = MAX;
        return row;
    }

    private static void sweep(int state) {
        changing(state, "kind", new int[] {MIN, -1, 0, 1, 2, 3, 4, MAX}, FEW_KINDS, FEW_KINDS, FEW_KINDS);
        changing(state, "bare", KINDS, new int[] {0, 1});
        changing(state, "say", range(-1, 140));
        changing(state, "wipe");
        changing(state, "has", KINDS, NAMES);
        changing(state, "drop", KINDS, NAMES);
        changing(state, "call", PLACES, KINDS);
        changing(state, "forget");
        changing(state, "size", PLACES, range(-1, 6));
        asking(state, "of", KINDS, WHATS);
        asking(state, "line", KINDS, range(-3, 12));
        asking(state, "quarrel", KINDS);
        asking(state, "fault");
        asking(state, "answer", KINDS, NAMES);
        asking(state, "next", KINDS, NAMES, KINDS);
        asking(state, "run", KINDS, NAMES, range(-4, 42));
        asking(state, "nearest", KINDS, NAMES);
        asking(state, "doubt", NAMES);
        asking(state, "settle", NAMES, WHATS);
        asking(state, "shift", KINDS, NAMES);
        asking(state, "column", NAMES);
        asking(state, "packed", KINDS);
        asking(state, "slot", range(-2, 102));
        asking(state, "one", KINDS, NAMES, WHATS);
        asking(state, "hits", PLACES, range(-2, 16));
        asking(state, "need", PLACES, range(-2, 43));
        asking(state, "told", range(-3, 33));
    }

    public static void main(String[] args) {
        for (int state = 0; state < 6; state++) sweep(state);
        System.out.println(checks + " answers: " + (wrong == 0 ? "all are those of the model" : wrong + " are not as due"));
        if (wrong != 0) System.exit(1);
    }
}
