/** Part 5 of Terms, and promises 23 to 28: sentence by sentence. */
final class EdgesOfPlaces {
    static final int MIN = Integer.MIN_VALUE, MAX = Integer.MAX_VALUE;

    static void all() {
        oneRowForAll();
        sizes();
        hitsAndWhatGoes();
        best();
        needs();
        callCall();
        forgetCall();
        sizeCall();
        hitsCall();
        needCall();
        toldCall();
    }

    private static AnswerLines called(int size, int... kinds) {
        AnswerLines x = Held.roots(10);
        x.size(0, size);
        Held.calls(x, 0, kinds);
        return x;
    }

    private static void oneRowForAll() {
        Held.says("PLACES 0 to 3 are called with a row of KINDS, 40 calls at most, in one row for all.");
        AnswerLines x = Held.roots(1);
        Held.due("call(4, 0)", x.call(4, 0), -1);
        Held.due("call(-1, 0)", x.call(-1, 0), -1);
        for (int i = 1; i <= 40; i++) Held.due("call(" + i % 4 + ", 0)", x.call(i % 4, 0), i);
        for (int place = 0; place < 4; place++) {
            Held.due("call(" + place + ", 0), a 41st", x.call(place, 0), -4);
            Held.due("hits(" + place + ", 0)", x.hits(place, 0), 10);
        }
        AnswerLines y = Held.roots(1);
        for (int i = 1; i <= 40; i++) y.call(3, 0);
        Held.due("hits(3, 0), all at one PLACE", y.hits(3, 0), 40);
        Held.due("call(0, 0), at another one", y.call(0, 0), -4);
    }

    private static void sizes() {
        Held.says("A PLACE remembers SIZE KINDS (1 to 4; 1 at first):");
        AnswerLines x = Held.roots(5);
        for (int place = 0; place < 4; place++) Held.calls(x, place, 0, 1, 2, 3, 4);
        for (int place = 0; place < 4; place++) Held.row("1 at first", Held.remembered(x, place), 4, -6, -6, -6);
        for (int v = 1; v <= 4; v++) Held.due("size(0, " + v + ")", x.size(0, v), v == 1 ? 1 : v - 1);
        Held.row("SIZE 4", Held.remembered(x, 0), 4, 3, 2, 1);
        Held.row("of that PLACE alone", Held.remembered(x, 1), 4, -6, -6, -6);
        Held.due("size(0, 0)", x.size(0, 0), -2);
        Held.due("size(0, 5)", x.size(0, 5), -2);
        x.size(0, 2);
        Held.row("SIZE 2 for calls before it, too", Held.remembered(x, 0), 4, 3, -6, -6);
    }

    private static void hitsAndWhatGoes() {
        Held.says("HIT: the KIND is remembered;");
        Held.due("the first call is none", called(4, 0).hits(0, 1), 0);
        Held.due("the same again", called(1, 0, 0).hits(0, 1), 1);
        Held.due("unlike ones", called(4, 0, 1, 2, 3).hits(0, 1), 0);
        AnswerLines x = Held.roots(2);
        x.call(0, 0);
        x.call(1, 0);
        Held.due("hits(1, 1), another PLACE remembers it", x.hits(1, 1), 0);
        Held.says("else it is from then on, and if there were SIZE,"
            + " that which was called longest ago at this PLACE is not any more.");
        Held.row("there were fewer than SIZE", Held.remembered(called(3, 0, 1), 0), 1, 0, -6, -6);
        Held.row("there were SIZE: 0 goes", Held.remembered(called(2, 0, 1, 2), 0), 2, 1, -6, -6);
        Held.row("1 goes: 0 was called again", Held.remembered(called(2, 0, 1, 0, 2), 0), 2, 0, -6, -6);
        Held.due("which is a HIT then", called(2, 0, 1, 0, 2, 0).hits(0, 1), 2);
        Held.due("and 1 is none", called(2, 0, 1, 0, 2, 1).hits(0, 1), 1);
        Held.due("just what went is called, all round", called(4, 0, 1, 2, 3, 4, 0, 1, 2, 3, 4).hits(0, 1), 0);
        Held.due("as many as SIZE, all round", called(4, 0, 1, 2, 3, 0, 1, 2, 3).hits(0, 1), 4);
        AnswerLines y = Held.roots(3);
        y.size(0, 2);
        Held.calls(y, 0, 0, 1);
        Held.calls(y, 1, 0, 2);
        Held.calls(y, 0, 2);
        Held.row("calls elsewhere do not count", Held.remembered(y, 0), 2, 1, -6, -6);
    }

    private static void best() {
        Held.says("BEST: as many HITS as can be, if which one goes may be chosen.");
        Held.due("SIZE 1: the new one is remembered, the old one goes", called(1, 0, 1, 0).hits(0, 2), 0);
        Held.due("SIZE 2: 1 goes, or nothing", called(2, 0, 1, 0, 2, 0).hits(0, 2), 2);
        Held.due("SIZE 2: 1 goes for 2", called(2, 0, 1, 2, 0).hits(0, 2), 1);
        Held.due("SIZE 2, by how long ago", called(2, 0, 1, 2, 0).hits(0, 1), 0);
        Held.due("SIZE 2: 0 and 2 are kept, then 0 and 1", called(2, 0, 1, 2, 0, 1, 2).hits(0, 2), 2);
        Held.due("SIZE 4: what is never called again goes", called(4, 0, 1, 2, 3, 4, 0, 1, 2).hits(0, 2), 3);
        Held.due("SIZE 3", called(3, 0, 1, 2, 3, 0, 1, 2, 3).hits(0, 2), 3);
        Held.due("no calls", called(4).hits(0, 2), 0);
        Held.due("nothing goes at a HIT", called(2, 0, 1, 0, 0, 1).hits(0, 2), 3);
        Held.due("all that are remembered come again: 2 goes", called(2, 1, 2, 3, 1, 2).hits(0, 2), 1);
        AnswerLines y = called(2, 0, 1);
        Held.calls(y, 1, 2, 3, 4);
        Held.calls(y, 0, 0, 1);
        Held.due("hits(0, 2), calls at another PLACE let nothing go", y.hits(0, 2), 2);
        Held.due("hits(1, 2)", y.hits(1, 2), 0);
        AnswerLines z = called(2, 0, 1, 2);
        Held.calls(z, 3, 1, 1);
        Held.calls(z, 0, 0);
        Held.due("hits(0, 2), 1 goes, though it comes at another PLACE", z.hits(0, 2), 1);
        AnswerLines x = called(4, 0, 0, 0, 0, 0, 0, 0, 0, 0, 0, 0, 0, 0, 0, 0, 0, 0, 0, 0, 0,
            0, 0, 0, 0, 0, 0, 0, 0, 0, 0, 0, 0, 0, 0, 0, 0, 0, 0, 0, 0);
        Held.due("all but the first of 40", x.hits(0, 2), 39);
        AnswerLines w = called(2);
        for (int i = 0; i < 40; i++) w.call(0, i % 10);
        Held.due("40 calls, ten all round: the 11th and each ninth behind it is a HIT", w.hits(0, 2), 4);
    }

    private static void needs() {
        Held.says("NEED: the least SIZE of 1 to 4 by which there are as many HITS as told, or more.");
        AnswerLines x = called(1, 0, 1, 2, 3, 0, 0, 3, 2, 1);
        Held.due("need(0, 0), none are told", x.need(0, 0), 1);
        Held.due("need(0, 1), as many", x.need(0, 1), 1);
        Held.due("need(0, 2), as many by SIZE 2", x.need(0, 2), 2);
        Held.due("need(0, 3), as many by SIZE 3", x.need(0, 3), 3);
        Held.due("need(0, 4), more by SIZE 4", x.need(0, 4), 4);
        Held.due("need(0, 5), as many by SIZE 4", x.need(0, 5), 4);
        Held.due("need(0, 6), by none", x.need(0, 6), -6);
        x.size(0, 4);
        Held.due("need(0, 1), whatever SIZE is", x.need(0, 1), 1);
        AnswerLines y = called(4, 0, 1, 2, 3, 4, 0, 1, 2, 3, 4);
        Held.due("need(0, 1), not by BEST", y.need(0, 1), -6);
    }

    private static void callCall() {
        Held.says("A PLACE is called with a KIND: how many calls. UNKNOWN; FULL.");
        AnswerLines x = Held.made("", "0", "01");
        Held.due("call(3, 0)", x.call(3, 0), 1);
        Held.due("call(0, 2), without a LINE, of all PLACES", x.call(0, 2), 2);
        x.bare(1, true);
        Held.due("call(0, 1), a BARE one", x.call(0, 1), 3);
        for (int place : new int[] {-1, 4, MIN, MAX}) Held.due("call(" + place + ", 0)", x.call(place, 0), -1);
        for (int kind : new int[] {-1, 3, MIN, MAX}) Held.due("call(0, " + kind + ")", x.call(0, kind), -1);
        Held.due("told(2)", x.told(2), 3);
        for (int i = 3; i < 40; i++) x.call(1, 0);
        Held.due("call(2, 0), FULL", x.call(2, 0), -4);
        Held.due("told(2)", x.told(2), 40);
    }

    private static void forgetCall() {
        Held.says("All calls are forgotten: how many there were.");
        AnswerLines x = Held.roots(2);
        for (int i = 0; i < 40; i++) x.call(i % 4, 0);
        x.size(3, 2);
        Held.due("forget()", x.forget(), 40);
        Held.due("told(2)", x.told(2), 0);
        for (int place = 0; place < 4; place++) {
            Held.due("hits(" + place + ", 0)", x.hits(place, 0), 0);
            Held.due("hits(" + place + ", 1)", x.hits(place, 1), 0);
            Held.row("nothing is remembered", Held.remembered(x, place), -6, -6, -6, -6);
        }
        Held.due("forget(), again", x.forget(), 0);
        Held.due("call(0, 0), from the first again", x.call(0, 0), 1);
        Held.due("hits(0, 1), no HIT by what was forgotten", x.hits(0, 1), 0);
        Held.due("size(3, 2), SIZES stay", x.size(3, 2), 2);
        Held.due("told(0), KINDS stay", x.told(0), 2);
    }

    private static void sizeCall() {
        Held.says("SIZE of a PLACE: which it was. UNKNOWN; OUTSIDE.");
        AnswerLines x = new AnswerLines();
        for (int place = 0; place < 4; place++) {
            Held.due("size(" + place + ", 4), 1 at first", x.size(place, 4), 1);
            Held.due("size(" + place + ", 4), the same again", x.size(place, 4), 4);
            Held.due("size(" + place + ", 1)", x.size(place, 1), 4);
        }
        for (int v : new int[] {0, 5, -1, MIN, MAX}) Held.due("size(3, " + v + ")", x.size(3, v), -2);
        for (int place : new int[] {-1, 4, MIN, MAX}) Held.due("size(" + place + ", 1)", x.size(place, 1), -1);
        Held.due("size(3, 2), it is as it was", x.size(3, 2), 1);
    }

    private static void hitsCall() {
        Held.says("Of a PLACE: calls (what = 0), HITS (1), BEST (2),"
            + " 10 to 13 the KIND remembered that was called latest, second latest, ... (NONE). UNKNOWN; OUTSIDE.");
        AnswerLines x = called(2, 0, 1, 2, 9, 1, 9);
        Held.due("hits(0, 0)", x.hits(0, 0), 6);
        Held.due("hits(0, 1)", x.hits(0, 1), 1);
        Held.due("hits(0, 2)", x.hits(0, 2), 2);
        Held.due("hits(0, 10), a HIT is the latest", x.hits(0, 10), 9);
        Held.due("hits(0, 11)", x.hits(0, 11), 1);
        Held.due("hits(0, 12), over SIZE", x.hits(0, 12), -6);
        Held.due("hits(0, 13), over SIZE", x.hits(0, 13), -6);
        x.size(0, 4);
        Held.row("SIZE 4", Held.remembered(x, 0), 9, 1, 2, 0);
        Held.row("no calls", Held.remembered(x, 1), -6, -6, -6, -6);
        for (int what : new int[] {-1, 3, 9, 14, MIN, MAX}) Held.due("hits(0, " + what + ")", x.hits(0, what), -2);
        for (int place : new int[] {-1, 4, MIN, MAX}) {
            for (int what : new int[] {0, 1, 2, 10, 13}) {
                Held.due("hits(" + place + ", " + what + ")", x.hits(place, what), -1);
            }
        }
    }

    private static void needCall() {
        Held.says("NEED of a PLACE for so many HITS (0 to 40); NONE. UNKNOWN; OUTSIDE.");
        AnswerLines x = Held.roots(1);
        Held.due("need(3, 0), no calls", x.need(3, 0), 1);
        Held.due("need(3, 1), no calls", x.need(3, 1), -6);
        for (int i = 0; i < 40; i++) x.call(3, 0);
        Held.due("need(3, 39), all but the first", x.need(3, 39), 1);
        Held.due("need(3, 40), never", x.need(3, 40), -6);
        Held.due("need(2, 40)", x.need(2, 40), -6);
        for (int hits : new int[] {-1, 41, MIN, MAX}) Held.due("need(3, " + hits + ")", x.need(3, hits), -2);
        for (int place : new int[] {-1, 4, MIN, MAX}) Held.due("need(" + place + ", 0)", x.need(place, 0), -1);
    }

    private static void toldCall() {
        Held.says("0 KINDS, 1 signs, 2 calls, 10 to 19 NAMES that a KIND HAS, as bits, 20 to 29 whether a KIND is BARE (1, 0). OUTSIDE.");
        AnswerLines x = Held.roots(10);
        for (int name = 0; name < 8; name++) x.has(9, name);
        x.has(0, 7);
        x.bare(9, true);
        Held.pad(x, "abcdefghabcd");
        for (int i = 0; i < 40; i++) x.call(i % 4, i % 10);
        Held.due("told(0)", x.told(0), 10);
        Held.due("told(1)", x.told(1), 12);
        Held.due("told(2)", x.told(2), 40);
        Held.due("told(10)", x.told(10), 128);
        Held.due("told(18)", x.told(18), 0);
        Held.due("told(19)", x.told(19), 255);
        Held.due("told(20)", x.told(20), 0);
        Held.due("told(29)", x.told(29), 1);
        for (int what : new int[] {-1, 3, 9, 30, 42, MIN, MAX}) Held.due("told(" + what + ")", x.told(what), -2);
        Held.says("(0 of KINDS that there are not.)");
        AnswerLines y = Held.roots(1);
        y.has(0, 0);
        y.bare(0, true);
        for (int kind = 1; kind < 10; kind++) {
            Held.due("told(" + (10 + kind) + ")", y.told(10 + kind), 0);
            Held.due("told(" + (20 + kind) + ")", y.told(20 + kind), 0);
        }
        Held.due("told(10)", y.told(10), 1);
        Held.due("told(20)", y.told(20), 1);
    }

    private EdgesOfPlaces() {
    }
}
