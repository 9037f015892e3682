/** Part 3 of Terms, and promises 15 to 18: sentence by sentence. */
final class EdgesOfNearest {
    static final int MIN = Integer.MIN_VALUE, MAX = Integer.MAX_VALUE;

    static void all() {
        nearestOnes();
        doubts();
        settlings();
        shifts();
        nearestCall();
        doubtCall();
        settleCall();
        shiftCall();
    }

    private static void nearestOnes() {
        Held.says("NEAREST of a KIND and a NAME: of it and KINDS ABOVE it those that HAVE the NAME,"
            + " and of which none is ABOVE another one of these:");
        AnswerLines x = Held.made("", "", "", "012", "3");
        Held.due("nearest(4, 0), nobody", x.nearest(4, 0), 0);
        x.has(4, 0);
        Held.due("nearest(3, 0), one BELOW does not count", x.nearest(3, 0), 0);
        Held.due("nearest(4, 0), itself", x.nearest(4, 0), 16);
        x.drop(4, 0);
        x.has(0, 0);
        x.has(1, 0);
        x.has(2, 0);
        Held.due("nearest(4, 0), from three sides", x.nearest(4, 0), 7);
        Held.due("nearest(0, 0)", x.nearest(0, 0), 1);
        x.has(3, 0);
        Held.due("nearest(4, 0), one for all sides", x.nearest(4, 0), 8);
        x.has(4, 0);
        Held.due("nearest(4, 0), itself alone", x.nearest(4, 0), 16);
        Held.due("nearest(4, 1), another NAME", x.nearest(4, 1), 0);
        Held.says("those that are ABOVE another such one don't count.");
        AnswerLines y = Held.made("", "0", "1", "0", "23");
        y.has(0, 0);
        y.has(2, 0);
        Held.due("nearest(2, 0), ABOVE it over 1 that does not HAVE it", y.nearest(2, 0), 4);
        Held.due("nearest(4, 0), 0 is ABOVE 2, though it comes by 3, too", y.nearest(4, 0), 4);
        Held.due("nearest(3, 0), where 2 is not ABOVE", y.nearest(3, 0), 1);
        y.has(3, 0);
        Held.due("nearest(4, 0), 2 and 3", y.nearest(4, 0), 12);
        y.has(1, 0);
        Held.due("nearest(4, 0), 1 is ABOVE 2", y.nearest(4, 0), 12);
        y.drop(2, 0);
        Held.due("nearest(4, 0), 1 and 3", y.nearest(4, 0), 10);
    }

    private static void doubts() {
        Held.says("DOUBT: there are two or more.");
        AnswerLines x = Held.made("", "", "", "0", "01", "012", "4");
        x.has(0, 0);
        Held.due("doubt(0), one", x.doubt(0), 0);
        x.has(1, 0);
        Held.due("doubt(0), two: 4, 5 and 6", x.doubt(0), 112);
        x.has(2, 0);
        Held.due("doubt(0), three for 5", x.doubt(0), 112);
        Held.due("nearest(5, 0)", x.nearest(5, 0), 7);
        x.bare(4, true);
        Held.due("doubt(0), BARE ones, too", x.doubt(0), 112);
        x.has(4, 0);
        Held.due("doubt(0), not 4 with its own, nor 6 BELOW it", x.doubt(0), 32);
        Held.due("doubt(1), another NAME", x.doubt(1), 0);
    }

    private static void settlings() {
        Held.says("SETTLE, of a NAME: the fewest KINDS that do not HAVE it and would have to (each for itself and all BELOW it)"
            + " so that no KIND is in DOUBT;");
        AnswerLines x = Held.made("", "", "01", "2", "3");
        Held.due("settle(0, 0), nobody HAS it", x.settle(0, 0), 0);
        x.has(0, 0);
        Held.due("settle(0, 0), no DOUBT", x.settle(0, 0), 0);
        x.has(1, 0);
        Held.due("settle(0, 0), one for all BELOW it", x.settle(0, 0), 4);
        x.has(3, 0);
        Held.due("settle(0, 0), that which HAS it BELOW does not help", x.settle(0, 0), 4);
        x.has(2, 0);
        Held.due("settle(0, 0), it HAS it now", x.settle(0, 0), 0);
        AnswerLines y = Held.made("", "", "01", "01", "23", "4");
        y.has(0, 0);
        y.has(1, 0);
        Held.due("settle(0, 0), 2 and 3, and 4 between these", y.settle(0, 0), 28);
        y.has(4, 0);
        Held.due("settle(0, 0), 4 HAS it", y.settle(0, 0), 12);
        AnswerLines z = Held.made("", "", "", "01", "23");
        z.has(0, 0);
        z.has(1, 0);
        z.has(2, 0);
        Held.due("settle(0, 0), 3, and 4 between 2 and 3", z.settle(0, 0), 24);
        z.drop(2, 0);
        Held.due("settle(0, 0), 3 for 4, too", z.settle(0, 0), 8);
        AnswerLines w = Held.diamond();
        w.has(1, 0);
        w.has(2, 0);
        w.bare(3, true);
        Held.due("settle(0, 0), BARE ones and those without a LINE, too", w.settle(0, 0), 56);
        AnswerLines v = Held.made("", "", "01", "01", "01", "01", "01", "01", "01", "01");
        v.has(0, 0);
        v.has(1, 0);
        Held.due("settle(0, 0), the most", v.settle(0, 0), 1020);
        Held.says("of several the least as bits.");
        Held.due("settle(0, 1): there is never but one fewest way", v.settle(0, 1), 8);
        AnswerLines u = Held.made("", "", "0", "1", "23", "4");
        u.has(2, 0);
        u.has(3, 0);
        Held.due("settle(0, 0), 4 rather than what is ABOVE or BELOW it", u.settle(0, 0), 16);
    }

    private static void shifts() {
        Held.says("SHIFT of a KIND and a NAME that it does not HAVE: KINDS with a LINE (BARE ones, too) that would get another"
            + " ANSWER, or one for the first time, if it had it.");
        AnswerLines x = Held.diamond();
        Held.due("shift(0, 0), for the first time", x.shift(0, 0), 31);
        Held.due("shift(3, 0), itself alone", x.shift(3, 0), 8);
        x.has(2, 0);
        Held.due("shift(0, 0), 2 is ahead for 2, 3, 4", x.shift(0, 0), 3);
        Held.due("shift(1, 0), ahead of 2 for 3, behind it for 4", x.shift(1, 0), 10);
        x.bare(3, true);
        x.bare(1, true);
        Held.due("shift(1, 0), BARE ones", x.shift(1, 0), 10);
        Held.due("shift(5, 0), without a LINE", x.shift(5, 0), 0);
        Held.due("shift(6, 0), without a LINE", x.shift(6, 0), 0);
        x.has(3, 0);
        Held.due("shift(1, 0), 3 HAS it itself", x.shift(1, 0), 2);
        Held.due("told(11), it does not HAVE it for that", x.told(11), 0);
        Held.due("answer(1, 0)", x.answer(1, 0), -6);
    }

    private static void nearestCall() {
        Held.says("NEAREST, as bits. UNKNOWN.");
        AnswerLines x = Held.chain(10);
        x.has(9, 7);
        Held.due("nearest(9, 7), the highest bit", x.nearest(9, 7), 512);
        Held.due("nearest(8, 7)", x.nearest(8, 7), 0);
        AnswerLines y = Held.roots(1);
        for (int kind : new int[] {-1, 1, 32, MIN, MAX}) Held.due("nearest(" + kind + ", 0)", y.nearest(kind, 0), -1);
        for (int name : new int[] {-1, 8, MIN, MAX}) Held.due("nearest(0, " + name + ")", y.nearest(0, name), -1);
        AnswerLines z = Held.diamond();
        z.has(6, 0);
        Held.due("nearest(6, 0), no LINE is needed", z.nearest(6, 0), 64);
    }

    private static void doubtCall() {
        Held.says("KINDS that are in DOUBT for a NAME, as bits. UNKNOWN.");
        AnswerLines x = Held.made("", "", "01", "01", "01", "01", "01", "01", "01", "01");
        Held.due("doubt(7)", x.doubt(7), 0);
        x.has(0, 7);
        x.has(1, 7);
        Held.due("doubt(7), eight of ten", x.doubt(7), 1020);
        for (int name : new int[] {-1, 8, MIN, MAX}) Held.due("doubt(" + name + ")", x.doubt(name), -1);
        AnswerLines y = Held.diamond();
        y.has(1, 0);
        y.has(2, 0);
        Held.due("doubt(0), no LINE is needed", y.doubt(0), 120);
    }

    private static void settleCall() {
        Held.says("SETTLE: the KINDS, as bits (what = 0), how many (1). UNKNOWN; OUTSIDE.");
        AnswerLines x = Held.made("", "", "01", "01", "23");
        x.has(0, 7);
        x.has(1, 7);
        Held.due("settle(7, 0)", x.settle(7, 0), 28);
        Held.due("settle(7, 1)", x.settle(7, 1), 3);
        Held.due("settle(6, 1), nothing to settle", x.settle(6, 1), 0);
        Held.due("told(12), nobody HAS it for that", x.told(12), 0);
        for (int what : new int[] {-1, 2, MIN, MAX}) Held.due("settle(7, " + what + ")", x.settle(7, what), -2);
        for (int name : new int[] {-1, 8, MIN, MAX}) {
            Held.due("settle(" + name + ", 0)", x.settle(name, 0), -1);
            Held.due("settle(" + name + ", 2)", x.settle(name, 2), -1);
        }
    }

    private static void shiftCall() {
        Held.says("SHIFT, as bits. UNKNOWN; NO: it HAS the NAME.");
        AnswerLines x = Held.chain(10);
        Held.due("shift(0, 7), all ten", x.shift(0, 7), 1023);
        Held.due("shift(9, 7)", x.shift(9, 7), 512);
        x.has(0, 7);
        Held.due("shift(0, 7)", x.shift(0, 7), -5);
        Held.due("shift(0, 6), another NAME", x.shift(0, 6), 1023);
        Held.due("shift(1, 7), ahead of 0 for all BELOW", x.shift(1, 7), 1022);
        x.drop(0, 7);
        Held.due("shift(0, 7), dropped", x.shift(0, 7), 1023);
        AnswerLines y = Held.diamond();
        y.has(5, 0);
        Held.due("shift(5, 0), it HAS it without a LINE", y.shift(5, 0), -5);
        for (int kind : new int[] {-1, 7, MIN, MAX}) Held.due("shift(" + kind + ", 0)", y.shift(kind, 0), -1);
        for (int name : new int[] {-1, 8, MIN, MAX}) Held.due("shift(5, " + name + ")", y.shift(5, name), -1);
    }

    private EdgesOfNearest() {
    }
}
