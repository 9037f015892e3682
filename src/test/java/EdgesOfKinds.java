/** Part 1 of Terms, and promises 1 to 6: sentence by sentence. */
final class EdgesOfKinds {
    static final int MIN = Integer.MIN_VALUE, MAX = Integer.MAX_VALUE;

    static void all() {
        tenKinds();
        parents();
        aboveAndBelow();
        bareOnes();
        rowsOfALine();
        firstFreeOne();
        noLine();
        quarrels();
        newObject();
        kindCall();
        bareCall();
        ofCall();
        lineCall();
        quarrelCall();
    }

    private static void tenKinds() {
        Held.says("KINDS, 10 at most, numbered from 0 on");
        AnswerLines x = new AnswerLines();
        Held.due("kind(1, 0, ..), refused: takes no number", x.kind(1, 0, 0, 0), -1);
        for (int i = 0; i < 10; i++) Held.due("kind(0, ..)", x.kind(0, 0, 0, 0), i);
        Held.due("kind(0, ..), an eleventh", x.kind(0, 0, 0, 0), -4);
        Held.due("kind(3, 7, 8, 9), an eleventh", x.kind(3, 7, 8, 9), -4);
        Held.due("told(0)", x.told(0), 10);
        Held.due("line(9, 0), the tenth is there", x.line(9, 0), 9);
        Held.due("line(10, 0), the eleventh is not", x.line(10, 0), -1);
    }

    private static void parents() {
        Held.says("PARENTS of a KIND are up to 3 unlike ones of lesser numbers, in an order.");
        AnswerLines x = Held.roots(3);
        Held.due("kind(4, 0, 1, 2), over 3", x.kind(4, 0, 1, 2), -2);
        Held.due("kind(3, 0, 1, 2), 3", x.kind(3, 0, 1, 2), 3);
        Held.due("kind(1, 4, ..), its own number", x.kind(1, 4, 0, 0), -1);
        Held.due("kind(1, 5, ..), a greater one", x.kind(1, 5, 0, 0), -1);
        Held.due("kind(2, 2, 2, 0), like ones", x.kind(2, 2, 2, 0), -1);
        Held.due("kind(3, 1, 1, 0), first and second", x.kind(3, 1, 1, 0), -1);
        Held.due("kind(3, 1, 0, 1), first and third", x.kind(3, 1, 0, 1), -1);
        Held.due("kind(3, 0, 1, 1), second and third", x.kind(3, 0, 1, 1), -1);
        Held.due("kind(3, 2, 0, 1), another order", x.kind(3, 2, 0, 1), 4);
        Held.row("THE LINE of 3", Held.line(x, 3), 3, 0, 1, 2);
        Held.row("THE LINE of 4", Held.line(x, 4), 4, 2, 0, 1);
        Held.due("kind(1, 4, ..), the number just ahead", x.kind(1, 4, 0, 0), 5);
        Held.due("kind(0, ..), no PARENTS", x.kind(0, 4, 4, 4), 6);
        Held.due("of(6, 0)", x.of(6, 0), 0);
    }

    private static void aboveAndBelow() {
        Held.says("ABOVE a KIND: its PARENTS, theirs, and so on; BELOW likewise, the other way round.");
        AnswerLines x = Held.chain(10);
        Held.due("of(9, 0), all nine", x.of(9, 0), 511);
        Held.due("of(0, 1), all nine", x.of(0, 1), 1022);
        Held.due("of(0, 0), never itself", x.of(0, 0), 0);
        Held.due("of(9, 1), never itself", x.of(9, 1), 0);
        Held.due("of(5, 0)", x.of(5, 0), 31);
        Held.due("of(5, 1)", x.of(5, 1), 960);
        AnswerLines y = Held.made("", "0", "0");
        Held.due("of(1, 0), not what stands beside it", y.of(1, 0), 1);
        Held.due("of(1, 1), not what stands beside it", y.of(1, 1), 0);
        y.kind(2, 1, 2, 0);
        Held.due("of(3, 0), 0 by two ways", y.of(3, 0), 7);
        Held.due("of(0, 1), BELOW grows", y.of(0, 1), 14);
        Held.due("of(1, 1)", y.of(1, 1), 8);
        AnswerLines z = Held.diamond();
        Held.due("of(6, 0), ABOVE needs no LINE", z.of(6, 0), 63);
        Held.due("of(1, 1), BELOW needs no LINE", z.of(1, 1), 120);
    }

    private static void bareOnes() {
        Held.says("A KIND is BARE or not (not at first): there are no things of a BARE one.");
        AnswerLines x = Held.made("", "0");
        x.has(0, 2);
        Held.due("told(20)", x.told(20), 0);
        Held.due("told(21)", x.told(21), 0);
        Held.due("packed(0)", x.packed(0), 0);
        Held.due("one(0, 2, 1)", x.one(0, 2, 1), 1);
        x.bare(0, true);
        x.bare(1, true);
        Held.due("packed(0), BARE", x.packed(0), -6);
        Held.due("packed(1), BARE", x.packed(1), -6);
        Held.due("one(0, 2, 1), BARE", x.one(0, 2, 1), 0);
        Held.due("line(1, -1), the LINE is as it was", x.line(1, -1), 2);
        Held.due("answer(1, 2), it answers as it did", x.answer(1, 2), 0);
        x.kind(1, 1, 0, 0);
        Held.due("told(22), BELOW a BARE one", x.told(22), 0);
        Held.due("one(0, 2, 0), BELOW BARE ones", x.one(0, 2, 0), 1);
    }

    private static void rowsOfALine() {
        Held.says("THE LINE of a KIND: itself, then: rows are LINES of its PARENTS, in order, and the row of its PARENTS;");
        AnswerLines x = Held.made("", "", "01", "10", "0");
        Held.row("no PARENTS, itself alone", Held.line(x, 0), 0);
        Held.row("one PARENT", Held.line(x, 4), 4, 0);
        Held.row("PARENTS 0, 1", Held.line(x, 2), 2, 0, 1);
        Held.row("PARENTS 1, 0", Held.line(x, 3), 3, 1, 0);
        AnswerLines y = Held.made("", "", "0", "210", "201");
        Held.row("2 ahead of 0 by its LINE, 1 ahead of 0 by the row of PARENTS", Held.line(y, 3), 3, 2, 1, 0);
        Held.row("1 behind 0 by the row of PARENTS", Held.line(y, 4), 4, 2, 0, 1);
        AnswerLines z = Held.made("", "0", "01");
        Held.due("the row of PARENTS against a LINE", z.line(2, -1), -3);
        AnswerLines w = Held.made("", "", "", "", "", "", "01", "23", "45", "678");
        Held.row("all ten", Held.line(w, 9), 9, 6, 0, 1, 7, 2, 3, 8, 4, 5);
    }

    private static void firstFreeOne() {
        Held.says("again and again the first KIND of the first row such that it is in no row but at its beginning comes next,"
            + " and is taken from all rows; till all rows are empty.");
        AnswerLines x = Held.made("", "", "", "20", "21", "34");
        Held.row("2 waits for 4; then the first row is the first again", Held.line(x, 5), 5, 3, 4, 2, 0, 1);
        AnswerLines y = Held.made("", "0", "0", "12");
        Held.row("0 is at the beginning of two rows, and taken from both", Held.line(y, 3), 3, 1, 2, 0);
        AnswerLines z = Held.made("", "0", "1", "0", "23", "32");
        Held.row("0 waits for the longer row's end", Held.line(z, 4), 4, 2, 1, 3, 0);
        Held.row("0 waits in the first row", Held.line(z, 5), 5, 3, 2, 1, 0);
        AnswerLines w = Held.made("", "", "", "012", "1", "2", "345", "543");
        Held.row("three rows: 1 and 2 wait for 4 and 5", Held.line(w, 6), 6, 3, 0, 4, 1, 5, 2);
        Held.row("three rows, turned round: 2 waits for 1", Held.line(w, 7), 7, 5, 4, 3, 0, 1, 2);
        AnswerLines v = Held.chain(10);
        Held.row("a chain of ten", Held.line(v, 9), 9, 8, 7, 6, 5, 4, 3, 2, 1, 0);
        AnswerLines u = Held.made("", "", "", "", "", "", "", "", "012", "834");
        Held.row("each once: as many as there are ABOVE, and itself", Held.line(u, 9), 9, 8, 0, 1, 2, 3, 4);
    }

    private static void noLine() {
        Held.says("If there is none such, the KIND has no LINE (nor has any that is BELOW it)");
        AnswerLines x = Held.made("", "0", "01", "2", "32", "1", "52");
        Held.due("line(2, -1), none such", x.line(2, -1), -3);
        Held.due("line(3, -1), its PARENT has none", x.line(3, -1), -3);
        Held.due("line(4, -1), none of its PARENTS has one", x.line(4, -1), -3);
        Held.due("line(5, -1), beside them", x.line(5, -1), 3);
        Held.due("line(6, -1), one of two PARENTS has none", x.line(6, -1), -3);
        Held.due("line(1, -1), ABOVE it all is well", x.line(1, -1), 2);
        AnswerLines y = Held.diamond();
        Held.due("line(5, -1), some are laid before the quarrel", y.line(5, -1), -3);
        Held.due("line(5, 0), nor is it in a LINE itself", y.line(5, 0), -3);
        Held.due("line(6, -1)", y.line(6, -1), -3);
    }

    private static void quarrels() {
        Held.says("QUARREL: the KINDS with which the rows begin then, as bits.");
        AnswerLines x = Held.made("", "0", "01", "10");
        Held.due("quarrel(2), at once", x.quarrel(2), 3);
        Held.due("quarrel(3), the other order has a LINE", x.quarrel(3), -6);
        AnswerLines y = Held.made("", "", "", "012", "102", "2", "345");
        Held.due("quarrel(6): 2 does not quarrel, but begins a row and waits", y.quarrel(6), 7);
        AnswerLines z = Held.made("", "", "", "01", "10", "2", "534");
        Held.due("quarrel(6): the row of 5 and 2 is empty then", z.quarrel(6), 3);
        AnswerLines w = Held.made("", "", "01", "10", "0", "234");
        Held.due("quarrel(5): two rows begin with 0", w.quarrel(5), 3);
        AnswerLines v = Held.made("", "", "", "01", "12", "20", "345");
        Held.due("quarrel(6), three rows in a ring", v.quarrel(6), 7);
        AnswerLines u = Held.diamond();
        Held.due("quarrel(5): 3 and 4 are laid and gone", u.quarrel(5), 6);
        AnswerLines t = Held.made("", "", "", "", "", "", "", "", "7", "78");
        Held.due("quarrel(9), the highest bits", t.quarrel(9), 384);
        AnswerLines s = Held.made("", "", "0", "021");
        Held.due("quarrel(3): the row of 1 begins with 1, which waits in the row of PARENTS", s.quarrel(3), 7);
    }

    private static void newObject() {
        Held.says("No KINDS, no calls at PLACES; the PAD is empty.");
        AnswerLines x = new AnswerLines();
        Held.due("told(0)", x.told(0), 0);
        Held.due("of(0, 0)", x.of(0, 0), -1);
        Held.due("told(2)", x.told(2), 0);
        for (int place = 0; place < 4; place++) Held.due("hits(" + place + ", 0)", x.hits(place, 0), 0);
        Held.due("told(1)", x.told(1), 0);
        Held.due("wipe()", x.wipe(), 0);
        Held.due("forget()", x.forget(), 0);
        Held.due("fault()", x.fault(), -6);
        Held.due("column(-1)", x.column(-1), 0);
        Held.due("column(7)", x.column(7), -6);
        Held.due("packed(-1)", x.packed(-1), 0);
        Held.due("packed(0)", x.packed(0), -1);
        Held.due("slot(0)", x.slot(0), -6);
        Held.due("doubt(0)", x.doubt(0), 0);
        Held.due("settle(0, 1)", x.settle(0, 1), 0);
        AnswerLines y = Held.roots(2);
        y.say('1');
        y.call(0, 0);
        Held.due("told(0), another object's KINDS", x.told(0), 0);
        Held.due("told(1), another object's PAD", x.told(1), 0);
        Held.due("told(2), another object's calls", x.told(2), 0);
    }

    private static void kindCall() {
        Held.says("A KIND with n PARENTS (0 to 3), of which the first n numbers tell: its number.");
        AnswerLines x = new AnswerLines();
        Held.due("kind(0, 9, -1, min)", x.kind(0, 9, -1, MIN), 0);
        Held.due("kind(1, 0, 9, -1)", x.kind(1, 0, 9, -1), 1);
        Held.due("kind(1, 0, 0, 0), the others may be like it", x.kind(1, 0, 0, 0), 2);
        Held.due("kind(2, 1, 2, 9)", x.kind(2, 1, 2, 9), 3);
        Held.due("kind(2, 2, 1, 1)", x.kind(2, 2, 1, 1), 4);
        Held.due("of(1, 0)", x.of(1, 0), 1);
        Held.due("of(4, 0)", x.of(4, 0), 7);
        AnswerLines y = Held.roots(4);
        Held.due("kind(3, 3, 2, 1)", y.kind(3, 3, 2, 1), 4);
        Held.due("of(4, 0), not the fourth root", y.of(4, 0), 14);

        Held.says("UNKNOWN: a PARENT, also one that is told twice; OUTSIDE: n; FULL.");
        AnswerLines z = Held.roots(3);
        for (int wrong : new int[] {-1, 3, 10, MIN, MAX}) {
            Held.due("kind(1, " + wrong + ", ..)", z.kind(1, wrong, 0, 0), -1);
            Held.due("kind(2, 0, " + wrong + ", ..)", z.kind(2, 0, wrong, 1), -1);
            Held.due("kind(3, 0, 1, " + wrong + ")", z.kind(3, 0, 1, wrong), -1);
        }
        Held.due("kind(2, 0, 0, 1)", z.kind(2, 0, 0, 1), -1);
        Held.due("kind(3, 0, 1, 0)", z.kind(3, 0, 1, 0), -1);
        for (int n : new int[] {-1, 4, MIN, MAX}) Held.due("kind(" + n + ", 0, 1, 2)", z.kind(n, 0, 1, 2), -2);
        Held.due("told(0), none was made", z.told(0), 3);
        for (int i = 3; i < 10; i++) z.kind(0, 0, 0, 0);
        Held.due("kind(0, ..), FULL", z.kind(0, 0, 0, 0), -4);
        Held.due("kind(3, 0, 1, 2), FULL", z.kind(3, 0, 1, 2), -4);
    }

    private static void bareCall() {
        Held.says("A KIND is BARE, or not: whether it was (1, 0). UNKNOWN.");
        AnswerLines x = Held.roots(10);
        Held.due("bare(9, false), not at first", x.bare(9, false), 0);
        Held.due("bare(9, true)", x.bare(9, true), 0);
        Held.due("bare(9, true), again", x.bare(9, true), 1);
        Held.due("told(29)", x.told(29), 1);
        Held.due("told(28), others stay", x.told(28), 0);
        Held.due("bare(0, true)", x.bare(0, true), 0);
        Held.due("bare(9, false)", x.bare(9, false), 1);
        Held.due("bare(9, false), again", x.bare(9, false), 0);
        Held.due("told(29)", x.told(29), 0);
        Held.due("told(20)", x.told(20), 1);
        AnswerLines y = Held.roots(1);
        for (int kind : new int[] {-1, 1, 32, MIN, MAX}) Held.due("bare(" + kind + ", true)", y.bare(kind, true), -1);
        Held.due("told(21), none to be", y.told(21), 0);
        y.kind(0, 0, 0, 0);
        Held.due("told(21), a refused call is not kept for it", y.told(21), 0);
        AnswerLines z = Held.diamond();
        Held.due("bare(6, true), without a LINE", z.bare(6, true), 0);
        Held.due("told(26)", z.told(26), 1);
    }

    private static void ofCall() {
        Held.says("Of a KIND: ABOVE it (what = 0), BELOW it (1), as bits. UNKNOWN; OUTSIDE.");
        AnswerLines x = Held.made("", "0", "1");
        Held.due("of(1, 0)", x.of(1, 0), 1);
        Held.due("of(1, 1)", x.of(1, 1), 4);
        for (int what : new int[] {-1, 2, MIN, MAX}) Held.due("of(1, " + what + ")", x.of(1, what), -2);
        for (int kind : new int[] {-1, 3, 33, MIN, MAX}) {
            Held.due("of(" + kind + ", 0)", x.of(kind, 0), -1);
            Held.due("of(" + kind + ", 1)", x.of(kind, 1), -1);
        }
    }

    private static void lineCall() {
        Held.says("THE LINE of a KIND: how many KINDS (i = -1), the i-th one; NONE. UNKNOWN; STATE: it has none.");
        AnswerLines x = Held.made("", "0", "01", "1");
        Held.due("line(0, -1)", x.line(0, -1), 1);
        Held.due("line(3, -1)", x.line(3, -1), 3);
        Held.due("line(3, 0), itself", x.line(3, 0), 3);
        Held.due("line(3, 2), the last one", x.line(3, 2), 0);
        for (int i : new int[] {3, 10, 30, -2, MIN, MAX}) Held.due("line(3, " + i + ")", x.line(3, i), -6);
        for (int i : new int[] {-1, 0, 9, -2, MIN, MAX}) {
            Held.due("line(2, " + i + ")", x.line(2, i), -3);
            Held.due("line(4, " + i + ")", x.line(4, i), -1);
            Held.due("line(-1, " + i + ")", x.line(-1, i), -1);
        }
        Held.due("line(min, 0)", x.line(MIN, 0), -1);
        Held.due("line(max, 0)", x.line(MAX, 0), -1);
        AnswerLines y = Held.chain(10);
        Held.due("line(9, -1), the longest", y.line(9, -1), 10);
        Held.due("line(9, 9)", y.line(9, 9), 0);
        Held.due("line(9, 10)", y.line(9, 10), -6);
        Held.due("line(8, 9), not what stands behind it", y.line(8, 9), -6);
    }

    private static void quarrelCall() {
        Held.says("QUARREL of a KIND, as bits; NONE: it has a LINE. UNKNOWN; NO: a PARENT has no LINE.");
        AnswerLines x = Held.made("", "0", "01", "2", "023", "1");
        Held.due("quarrel(0), no PARENTS", x.quarrel(0), -6);
        Held.due("quarrel(2)", x.quarrel(2), 3);
        Held.due("quarrel(3)", x.quarrel(3), -5);
        Held.due("quarrel(4), one of three PARENTS has a LINE", x.quarrel(4), -5);
        Held.due("quarrel(5)", x.quarrel(5), -6);
        for (int kind : new int[] {-1, 6, MIN, MAX}) Held.due("quarrel(" + kind + ")", x.quarrel(kind), -1);
    }

    private EdgesOfKinds() {
    }
}
