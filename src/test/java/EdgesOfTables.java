/** Part 4 of Terms, and promises 19 to 22: sentence by sentence. */
final class EdgesOfTables {
    static final int MIN = Integer.MIN_VALUE, MAX = Integer.MAX_VALUE;

    static void all() {
        theTable();
        fewestColumns();
        firstWay();
        pushedRows();
        lengths();
        oneAnswer();
        columnCall();
        packedCall();
        slotCall();
        oneCall();
    }

    /** KINDS without PARENTS, each of which HAS these NAMES. */
    private static AnswerLines rows(String... names) {
        AnswerLines x = Held.roots(names.length);
        for (int kind = 0; kind < names.length; kind++) {
            for (char name : names[kind].toCharArray()) x.has(kind, name - '0');
        }
        return x;
    }

    private static void theTable() {
        Held.says("THE TABLE: for each KIND that has a LINE and is not BARE, and each NAME its ANSWER, if there is one.");
        AnswerLines x = Held.made("", "0", "01");
        x.has(2, 3);
        Held.due("packed(2), no LINE", x.packed(2), -6);
        Held.due("packed(-1), nothing is filled", x.packed(-1), 0);
        x.has(0, 1);
        Held.row("0 and 1, by the ANSWER of 0", Held.slots(x, 4), -6, 1, 11, -6);
        x.bare(0, true);
        Held.row("1 alone, 0 is BARE, but answers", Held.slots(x, 4), -6, 11, -6, -6);
        x.bare(1, true);
        Held.row("none", Held.slots(x, 4), -6, -6, -6, -6);
    }

    private static void fewestColumns() {
        Held.says("COLUMNS: NAMES with some ANSWER in as few as can be, so that two in one column are never answered by one KIND;");
        Held.row("one row, each its own", Held.columns(rows("01234567")), 0, 1, 2, 3, 4, 5, 6, 7);
        Held.row("rows of one", Held.columns(rows("0", "1", "2", "3", "4", "5", "6", "7")), 0, 0, 0, 0, 0, 0, 0, 0);
        Held.row("NAMES without ANSWER have none", Held.columns(rows("3", "6")), -6, -6, -6, 0, -6, -6, 0, -6);
        AnswerLines x = rows("03", "05", "21", "25", "41", "43");
        Held.row("who puts 1 beside 0 needs three", Held.columns(x), 0, 1, 0, 1, 0, 1, -6, -6);
        Held.due("column(-1)", x.column(-1), 2);
        Held.row("a ring of five needs three", Held.columns(rows("01", "12", "23", "34", "40")), 0, 1, 0, 1, 2, -6, -6, -6);
        AnswerLines y = Held.made("", "", "01");
        y.has(0, 0);
        y.has(1, 1);
        Held.row("2 is answered both, by two others", Held.columns(y), 0, 1, -6, -6, -6, -6, -6, -6);
        y.bare(2, true);
        Held.row("2 is BARE: nobody is answered both", Held.columns(y), 0, 0, -6, -6, -6, -6, -6, -6);
        AnswerLines z = Held.diamond();
        z.has(3, 0);
        z.has(4, 1);
        Held.row("5 has no LINE: nobody is answered both", Held.columns(z), 0, 0, -6, -6, -6, -6, -6, -6);
    }

    private static void firstWay() {
        Held.says("each NAME's column: of several ways the first by columns of NAMES 0 to 7, columns numbered as they come.");
        Held.row("the first NAME with an ANSWER has column 0", Held.columns(rows("75")), -6, -6, -6, -6, -6, 0, -6, 1);
        Held.row("2 and 3 could both be 1 or 0", Held.columns(rows("01", "2", "3")), 0, 1, 0, 0, -6, -6, -6, -6);
        Held.row("least for 1 first, then for 2", Held.columns(rows("02", "13")), 0, 0, 1, 1, -6, -6, -6, -6);
        Held.row("0 and 1 together bring 2 and 7 together", Held.columns(rows("07", "71", "12", "26")), 0, 0, 1, -6, -6, -6, 0, 1);
        Held.row("0, 1, 3, 4 meet each other, 2 meets none", Held.columns(rows("034", "134", "01", "2")),
            0, 1, 0, 2, 3, -6, -6, -6);
        Held.row("a third of three is chosen late", Held.columns(rows("012", "3", "43")), 0, 1, 2, 0, 1, -6, -6, -6);
    }

    private static void pushedRows() {
        Held.says("PACKED: its rows, by numbers of KINDS, are pushed one behind another each to the least place from 0 on"
            + " such that no place that it fills (place and NAME) is filled;");
        AnswerLines x = rows("02", "02", "02");
        Held.row("the second between the first", Held.slots(x, 8), 0, 10, 2, 12, 20, -6, 22, -6);
        Held.due("packed(1)", x.packed(1), 1);
        Held.due("packed(2)", x.packed(2), 4);
        AnswerLines y = rows("7", "7", "01");
        Held.row("never ahead of 0, though there is room", Held.slots(y, 9), 20, 21, -6, -6, -6, -6, -6, 7, 17);
        Held.due("packed(0)", y.packed(0), 0);
        Held.due("packed(1)", y.packed(1), 1);
        Held.due("packed(2), 0 again", y.packed(2), 0);
        AnswerLines z = rows("07", "1234", "01");
        Held.row("into a gap, or behind all", Held.slots(z, 9), 0, 11, 12, 13, 14, 20, 21, 7, -6);
        AnswerLines w = rows("0", "", "0");
        Held.due("packed(1), an empty row", w.packed(1), -6);
        Held.due("packed(2), which fills nothing", w.packed(2), 1);
        AnswerLines v = rows("01", "0");
        v.bare(0, true);
        Held.due("packed(1), a BARE one's row is not pushed", v.packed(1), 0);
        v.bare(0, false);
        Held.due("packed(1)", v.packed(1), 2);
    }

    private static void lengths() {
        Held.says("LENGTH: the greatest place filled, and 1.");
        Held.due("packed(-1), one filled", rows("0").packed(-1), 1);
        Held.due("packed(-1), with gaps ahead of it", rows("7").packed(-1), 8);
        Held.due("packed(-1), the first row reaches farthest", rows("07", "1", "2").packed(-1), 8);
        Held.due("packed(-1), nothing is filled", Held.roots(2).packed(-1), 0);
        AnswerLines x = Held.made("", "0", "0", "0", "0", "0", "0", "0", "0", "0");
        for (int name = 0; name < 8; name++) x.has(0, name);
        Held.due("packed(-1), ten full rows", x.packed(-1), 80);
    }

    private static void oneAnswer() {
        Held.says("ONE: a call of a NAME of what is a KIND or BELOW it: all unlike ANSWERS of those that are not BARE and have LINES,"
            + " as bits of KINDS.");
        AnswerLines x = Held.diamond();
        x.has(1, 0);
        Held.due("one(0, 0, 0), 0 and 2 have no ANSWER", x.one(0, 0, 0), 2);
        Held.due("one(3, 0, 0), an ANSWER from ABOVE", x.one(3, 0, 0), 2);
        Held.due("one(2, 0, 0), 3 and 4 are BELOW 2 as well", x.one(2, 0, 0), 2);
        x.has(2, 0);
        x.has(5, 0);
        Held.due("one(1, 0, 0), 4 is answered by 2", x.one(1, 0, 0), 6);
        Held.due("one(5, 0, 0), no LINE", x.one(5, 0, 0), 0);
        Held.due("one(6, 0, 0), no LINE", x.one(6, 0, 0), 0);
        x.bare(4, true);
        Held.due("one(1, 0, 0), 4 is BARE", x.one(1, 0, 0), 2);
        x.bare(1, true);
        Held.due("one(1, 0, 0), 1 is BARE, but answers 3", x.one(1, 0, 0), 2);
        x.bare(3, true);
        Held.due("one(1, 0, 0), all are BARE", x.one(1, 0, 0), 0);
        Held.due("one(0, 0, 0), 2 is left", x.one(0, 0, 0), 4);
    }

    private static void columnCall() {
        Held.says("COLUMNS: how many (name = -1), the column of a NAME; NONE: it has no ANSWER. UNKNOWN.");
        AnswerLines x = Held.made("", "0", "01");
        Held.due("column(-1), none", x.column(-1), 0);
        x.has(2, 7);
        Held.due("column(7), no LINE", x.column(7), -6);
        x.has(0, 7);
        Held.due("column(7)", x.column(7), 0);
        Held.due("column(-1), one", x.column(-1), 1);
        Held.due("column(6)", x.column(6), -6);
        x.bare(0, true);
        Held.due("column(7), 1 is answered", x.column(7), 0);
        x.bare(1, true);
        Held.due("column(7), only BARE ones are answered", x.column(7), -6);
        Held.due("column(-1)", x.column(-1), 0);
        Held.due("column(-1), eight", rows("01234567").column(-1), 8);
        for (int name : new int[] {-2, 8, MIN, MAX}) Held.due("column(" + name + ")", x.column(name), -1);
    }

    private static void packedCall() {
        Held.says("PACKED: LENGTH (kind = -1; 0: nothing is filled), the place to which a KIND's row is pushed;"
            + " NONE: it has none (no LINE, BARE, or nothing in it). UNKNOWN.");
        AnswerLines x = Held.made("", "0", "01", "");
        Held.due("packed(-1)", x.packed(-1), 0);
        Held.due("packed(0), nothing in it", x.packed(0), -6);
        x.has(0, 4);
        x.has(2, 4);
        Held.due("packed(0), its place, not what it fills", x.packed(0), 0);
        Held.due("packed(1)", x.packed(1), 1);
        Held.due("packed(2), no LINE", x.packed(2), -6);
        Held.due("packed(3), nothing in it", x.packed(3), -6);
        Held.due("packed(-1)", x.packed(-1), 6);
        x.bare(0, true);
        Held.due("packed(0), BARE", x.packed(0), -6);
        Held.due("packed(1)", x.packed(1), 0);
        Held.due("packed(-1)", x.packed(-1), 5);
        for (int kind : new int[] {-2, 4, 10, MIN, MAX}) Held.due("packed(" + kind + ")", x.packed(kind), -1);
    }

    private static void slotCall() {
        Held.says("What stands at a place of PACKED (0 to 99): 10 times the KIND whose row fills it, and the NAME; NONE. OUTSIDE.");
        AnswerLines x = Held.made("", "0", "0", "0", "0", "0", "0", "0", "0", "0");
        for (int name = 0; name < 8; name++) x.has(0, name);
        Held.due("slot(0)", x.slot(0), 0);
        Held.due("slot(79), the last that can be filled", x.slot(79), 97);
        Held.due("slot(80)", x.slot(80), -6);
        Held.due("slot(99)", x.slot(99), -6);
        for (int place : new int[] {-1, 100, MIN, MAX}) Held.due("slot(" + place + ")", x.slot(place), -2);
        AnswerLines y = Held.chain(2);
        y.has(0, 7);
        Held.due("slot(8), the KIND of the row, not who answers", y.slot(8), 17);
        Held.due("slot(0), ahead of what is filled", y.slot(0), -6);
        Held.due("slot(99), no KINDS", new AnswerLines().slot(99), -6);
        Held.due("slot(100), no KINDS", new AnswerLines().slot(100), -2);
    }

    private static void oneCall() {
        Held.says("ONE: the ANSWERS, as bits (what = 0), how many (1). UNKNOWN; OUTSIDE.");
        AnswerLines x = Held.chain(10);
        Held.due("one(0, 7, 0), none", x.one(0, 7, 0), 0);
        Held.due("one(0, 7, 1), none", x.one(0, 7, 1), 0);
        for (int kind = 0; kind < 10; kind++) x.has(kind, 7);
        Held.due("one(0, 7, 0), all ten", x.one(0, 7, 0), 1023);
        Held.due("one(0, 7, 1)", x.one(0, 7, 1), 10);
        Held.due("one(9, 7, 0), the last", x.one(9, 7, 0), 512);
        Held.due("one(9, 7, 1), but one", x.one(9, 7, 1), 1);
        for (int what : new int[] {-1, 2, MIN, MAX}) Held.due("one(0, 7, " + what + ")", x.one(0, 7, what), -2);
        for (int kind : new int[] {-1, 10, MIN, MAX}) Held.due("one(" + kind + ", 7, 0)", x.one(kind, 7, 0), -1);
        for (int name : new int[] {-1, 8, MIN, MAX}) Held.due("one(0, " + name + ", 0)", x.one(0, name, 0), -1);
    }

    private EdgesOfTables() {
    }
}
