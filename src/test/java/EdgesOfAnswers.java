/** Part 2 of Terms, and promises 7 to 14: sentence by sentence. */
final class EdgesOfAnswers {
    static final int MIN = Integer.MIN_VALUE, MAX = Integer.MAX_VALUE;

    static void all() {
        names();
        bodies();
        signs();
        faults();
        answersAndNext();
        runs();
        endsOfRuns();
        tooDeep();
        tooMany();
        tooMuchSaid();
        padCalls();
        hasCall();
        dropCall();
        answerCall();
        nextCall();
        runCall();
    }

    private static void names() {
        Held.says("NAMES 0 to 7.");
        AnswerLines x = Held.roots(1);
        for (int name = 0; name < 8; name++) Held.due("has(0, " + name + ")", x.has(0, name), 1);
        Held.due("told(10), all eight", x.told(10), 255);
        for (int name : new int[] {-1, 8, 32, MIN, MAX}) {
            Held.due("has(0, " + name + ")", x.has(0, name), -1);
            Held.due("doubt(" + name + ")", x.doubt(name), -1);
        }
        Held.says("A KIND HAS a NAME or not (not at first);");
        AnswerLines y = Held.roots(10);
        for (int kind = 0; kind < 10; kind++) Held.due("told(" + (10 + kind) + ")", y.told(10 + kind), 0);
        y.has(9, 7);
        Held.due("told(19)", y.told(19), 128);
        Held.due("told(18), others do not", y.told(18), 0);
        AnswerLines z = Held.chain(2);
        z.has(0, 0);
        Held.due("told(11), BELOW does not HAVE it for that", z.told(11), 0);
    }

    private static void bodies() {
        Held.says("then with a BODY: a text of up to 12 signs (codes 33 to 126), worked from the left:");
        AnswerLines x = Held.roots(1);
        Held.due("say(32)", x.say(32), -2);
        Held.due("say(33)", x.say(33), 1);
        Held.due("say(126)", x.say(126), 2);
        Held.due("say(127)", x.say(127), -2);
        Held.pad(x, "123456789012");
        Held.due("say('3'), a thirteenth", x.say('3'), -4);
        x.has(0, 0);
        Held.row("all twelve, from the left", Held.run(x, 0, 0), 0, 1, 2, 3, 4, 5, 6, 7, 8, 9, 0, 1, 2);
        x.has(0, 1);
        Held.row("none", Held.run(x, 0, 1), 0);
        Held.give(x, 0, 0, "1");
        Held.row("nothing of a longer BODY before it", Held.run(x, 0, 0), 0, 1);
        AnswerLines y = Held.roots(10);
        int[][] beside = {{9, 7}, {9, 6}, {1, 0}, {0, 7}, {0, 1}, {0, 0}};
        for (int[] b : beside) Held.give(y, b[0], b[1], b[0] + "1234567890" + b[1]);
        for (int[] b : beside) {
            Held.row("full ones side by side", Held.run(y, b[0], b[1]), 0, b[0], 1, 2, 3, 4, 5, 6, 7, 8, 9, 0, b[1]);
        }
    }

    private static void signs() {
        Held.says("a digit is SAID;");
        AnswerLines x = Held.roots(1);
        for (int digit = 0; digit < 10; digit++) {
            Held.give(x, 0, 0, String.valueOf(digit));
            Held.row("run of " + digit, Held.run(x, 0, 0), 0, digit);
        }
        Held.says("a letter a to h: the NAME 0 to 7 is called;");
        for (int name = 0; name < 8; name++) {
            AnswerLines z = Held.chain(2);
            Held.give(z, 0, name, String.valueOf(name + 1));
            Held.give(z, 1, (name + 1) % 8, String.valueOf((char) ('a' + name)));
            Held.row("the letter of " + name, Held.run(z, 1, (name + 1) % 8), 0, name + 1);
        }
        Held.says("^: the same NAME is called from the next one in THE LINE that HAS it.");
        AnswerLines w = Held.chain(4);
        Held.give(w, 3, 0, "3^");
        Held.give(w, 1, 0, "1^");
        Held.give(w, 0, 0, "0");
        Held.row("2, which does not HAVE it, is passed by", Held.run(w, 3, 0), 0, 3, 1, 0);
        Held.give(w, 3, 1, "a");
        Held.give(w, 2, 1, "9");
        Held.row("the same NAME is that of the BODY, not of the RUN", Held.run(w, 3, 1), 0, 3, 1, 0);
        Held.give(w, 0, 0, "0^");
        Held.row("there is no next one", Held.run(w, 3, 0), 1, 3, 1, 0);
    }

    private static void faults() {
        Held.says("Other signs can not stand: THE FAULT: the place (from 0 on) of the first one.");
        AnswerLines x = new AnswerLines();
        for (char sign : "/:@AHZ[\\]_`iz{|}~!\"".toCharArray()) {
            Held.pad(x, String.valueOf(sign));
            Held.due("fault() of " + sign, x.fault(), 0);
        }
        for (char sign : "09ah^".toCharArray()) {
            Held.pad(x, String.valueOf(sign));
            Held.due("fault() of " + sign, x.fault(), -6);
        }
        Held.pad(x, "0a^i^a0i");
        Held.due("fault(), the first of two", x.fault(), 3);
        Held.pad(x, "12345678901i");
        Held.due("fault(), the last place", x.fault(), 11);
        Held.pad(x, "i2345678901i");
        Held.due("fault(), the first place", x.fault(), 0);
    }

    private static void answersAndNext() {
        Held.says("ANSWER of a KIND and a NAME: the first KIND of its LINE that HAS the NAME.");
        AnswerLines x = Held.diamond();
        x.has(0, 0);
        Held.due("answer(3, 0), the last of THE LINE", x.answer(3, 0), 0);
        x.has(2, 0);
        Held.due("answer(3, 0)", x.answer(3, 0), 2);
        x.has(1, 0);
        Held.due("answer(3, 0), 1 is ahead of 2", x.answer(3, 0), 1);
        Held.due("answer(4, 0), 2 is ahead of 1", x.answer(4, 0), 2);
        x.has(3, 0);
        Held.due("answer(3, 0), itself", x.answer(3, 0), 3);
        Held.due("answer(1, 0), not one BELOW", x.answer(1, 0), 1);
        Held.due("answer(3, 1), nobody", x.answer(3, 1), -6);
        Held.says("NEXT behind a KIND of THE LINE: the first one behind it.");
        Held.due("next(3, 0, 3), behind the ANSWER", x.next(3, 0, 3), 1);
        Held.due("next(3, 0, 2), the last but one", x.next(3, 0, 2), 0);
        Held.due("next(3, 0, 0), behind the last", x.next(3, 0, 0), -6);
        x.drop(1, 0);
        Held.due("next(3, 0, 3), 1 is passed by", x.next(3, 0, 3), 2);
        Held.due("next(3, 0, 1), behind one that does not HAVE it", x.next(3, 0, 1), 2);
        Held.due("next(4, 0, 2), another LINE", x.next(4, 0, 2), 0);
    }

    private static void runs() {
        Held.says("A RUN of a KIND and a NAME (its LINE is meant all along): its ANSWER's BODY is worked;");
        AnswerLines x = Held.diamond();
        Held.give(x, 1, 0, "1^");
        Held.give(x, 2, 0, "2^");
        Held.give(x, 0, 0, "0");
        Held.row("from 1 on to 2, which is not in the LINE of 1", Held.run(x, 3, 0), 0, 1, 2, 0);
        Held.row("from 2 on to 1", Held.run(x, 4, 0), 0, 2, 1, 0);
        Held.row("in the LINE of 1", Held.run(x, 1, 0), 0, 1, 0);
        x.bare(3, true);
        Held.row("of a BARE one", Held.run(x, 3, 0), 0, 1, 2, 0);
        Held.says("calls of NAMES begin with the first of THE LINE again;");
        Held.give(x, 0, 1, "c");
        Held.give(x, 0, 2, "5");
        Held.give(x, 2, 2, "6");
        Held.give(x, 3, 2, "7");
        Held.row("from the BODY of 0 to 3 itself", Held.run(x, 3, 1), 0, 7);
        Held.row("to 2 in the LINE of 4", Held.run(x, 4, 1), 0, 6);
        Held.row("to 0 in the LINE of 1", Held.run(x, 1, 1), 0, 5);
        Held.give(x, 3, 3, "8^");
        Held.give(x, 0, 3, "9d");
        Held.due("behind ^ too: without end", x.run(3, 3, -1), 2);
        Held.due("run(3, 3, 2), from 3 again", x.run(3, 3, 2), 8);
        Held.says("a call is worked whole ahead of what is behind it.");
        AnswerLines y = Held.chain(2);
        Held.give(y, 0, 0, "1b2b3");
        Held.give(y, 0, 1, "4c5");
        Held.give(y, 0, 2, "6");
        Held.give(y, 1, 0, "7^8^9");
        Held.row("run of 0", Held.run(y, 0, 0), 0, 1, 4, 6, 5, 2, 4, 6, 5, 3);
        Held.row("run of 1", Held.run(y, 1, 0), 0, 7, 1, 4, 6, 5, 2, 4, 6, 5, 3, 8, 1, 4, 6, 5, 2, 4, 6, 5, 3, 9);
    }

    private static void endsOfRuns() {
        Held.says("It ENDS: 0 all is worked;");
        AnswerLines x = Held.roots(1);
        x.has(0, 0);
        Held.row("nothing is to be worked", Held.run(x, 0, 0), 0);
        Held.give(x, 0, 1, "1a2");
        Held.row("a call of an empty BODY", Held.run(x, 0, 1), 0, 1, 2);
        Held.says("1 a call that nobody answers;");
        Held.row("the RUN itself", Held.run(x, 0, 7), 1);
        Held.give(x, 0, 2, "1h2");
        Held.row("a letter: what is behind it is not worked", Held.run(x, 0, 2), 1, 1);
        Held.give(x, 0, 3, "1^2");
        Held.row("^ at the end of THE LINE", Held.run(x, 0, 3), 1, 1);
        Held.give(x, 0, 4, "3c4");
        Held.row("within another call", Held.run(x, 0, 4), 1, 3, 1);
        AnswerLines y = Held.made("", "0", "0");
        y.has(2, 0);
        Held.row("one that is beside it does not answer", Held.run(y, 1, 0), 1);
        y.has(0, 1);
        y.drop(0, 1);
        Held.row("one that HAS it no more", Held.run(y, 1, 1), 1);
    }

    /** The RUN is a call itself: with it nine stand open, and what is called then is within 9 others. */
    private static void tooDeep() {
        Held.says("2 a call within 9 others,");
        AnswerLines x = Held.chain(10);
        for (int kind = 1; kind < 10; kind++) Held.give(x, kind, 0, kind + "^");
        Held.give(x, 0, 0, "0");
        Held.row("the ninth, within 8", Held.run(x, 8, 0), 0, 8, 7, 6, 5, 4, 3, 2, 1, 0);
        Held.row("the tenth, within 9", Held.run(x, 9, 0), 2, 9, 8, 7, 6, 5, 4, 3, 2, 1);
        AnswerLines y = Held.roots(1);
        Held.give(y, 0, 0, "1a2");
        Held.row("by letters", Held.run(y, 0, 0), 2, 1, 1, 1, 1, 1, 1, 1, 1, 1);
        AnswerLines z = Held.chain(2);
        String[] down = {"1b", "2c", "3d", "4e", "5f", "6g", "7hh", "88"};
        for (int name = 0; name < 8; name++) Held.give(z, 0, name, down[name]);
        Held.give(z, 1, 0, "9^^");
        Held.row("twice as deep as can be: those that are worked are no more open", Held.run(z, 1, 0),
            0, 9, 1, 2, 3, 4, 5, 6, 7, 8, 8, 8, 8, 1, 2, 3, 4, 5, 6, 7, 8, 8, 8, 8);
        Held.give(z, 0, 7, "8^");
        Held.due("within 9 others, and nobody would answer it", z.run(1, 0, -1), 2);
        Held.due("within 8 others, and nobody answers it", z.run(0, 0, -1), 1);
    }

    /** The RUN is a call itself: the 201st call is behind 200 others. */
    private static void tooMany() {
        Held.says("a call behind 200 others,");
        AnswerLines x = Held.roots(1);
        Held.give(x, 0, 0, "bbbbbbbbbbbb");
        Held.give(x, 0, 1, "cccccccccccc");
        x.has(0, 2);
        Held.give(x, 0, 3, "abbbccc5");
        Held.row("1 + 157 + 3 * 13 + 3 are 200", Held.run(x, 0, 3), 0, 5);
        Held.give(x, 0, 3, "abbbccc5c6");
        Held.row("the 201st", Held.run(x, 0, 3), 2, 5);
        Held.give(x, 0, 3, "abbbccc5h6");
        Held.row("the 201st, and nobody would answer it", Held.run(x, 0, 3), 2, 5);
        Held.give(x, 0, 3, "abbbcc5h6");
        Held.row("the 200th, and nobody answers it", Held.run(x, 0, 3), 1, 5);
        AnswerLines y = Held.chain(2);
        y.has(0, 0);
        Held.give(y, 1, 0, "^^^^^^^^^^^^");
        Held.give(y, 1, 1, "aaaaaaaaaaaa");
        Held.give(y, 1, 2, "baaa^");
        Held.give(y, 0, 2, "d");
        y.has(0, 3);
        Held.row("1 + 157 + 3 * 13 + 2 by ^ and letters", Held.run(y, 1, 2), 0);
        Held.give(y, 1, 2, "baaad7d8");
        Held.row("199", Held.run(y, 1, 2), 0, 7, 8);
        Held.give(y, 1, 2, "baaadd7d8d9");
        Held.row("the 201st", Held.run(y, 1, 2), 2, 7, 8);
    }

    private static void tooMuchSaid() {
        Held.says("or a digit behind 40.");
        AnswerLines x = Held.roots(1);
        Held.give(x, 0, 0, "0123456789");
        Held.give(x, 0, 1, "aaaa");
        x.has(0, 2);
        Held.due("40 are SAID", x.run(0, 1, -1), 0);
        Held.due("run(0, 1, -2)", x.run(0, 1, -2), 40);
        Held.due("run(0, 1, 39)", x.run(0, 1, 39), 9);
        Held.due("run(0, 1, 40)", x.run(0, 1, 40), -6);
        Held.give(x, 0, 1, "aaaa7");
        Held.due("a digit behind 40", x.run(0, 1, -1), 2);
        Held.due("run(0, 1, -2), it is not SAID", x.run(0, 1, -2), 40);
        Held.due("run(0, 1, 40)", x.run(0, 1, 40), -6);
        Held.give(x, 0, 1, "aaaac");
        Held.due("a call behind 40 digits", x.run(0, 1, -1), 0);
        Held.give(x, 0, 1, "aaaah7");
        Held.due("a call behind 40 digits that nobody answers", x.run(0, 1, -1), 1);
        Held.give(x, 0, 1, "1aaaa");
        Held.due("within another call", x.run(0, 1, -1), 2);
        Held.due("run(0, 1, 39), the last but one of the fourth", x.run(0, 1, 39), 8);
    }

    private static void padCalls() {
        Held.says("A sign more on the PAD: how many. OUTSIDE; FULL.");
        AnswerLines x = new AnswerLines();
        for (int sign : new int[] {32, 127, 0, -1, 256 + 'a', 65536 + 'a', MIN, MAX}) {
            Held.due("say(" + sign + ")", x.say(sign), -2);
        }
        for (int i = 1; i <= 12; i++) Held.due("say", x.say(i == 1 ? 33 : 126), i);
        Held.due("say('1'), a 13th", x.say('1'), -4);
        Held.due("told(1)", x.told(1), 12);
        Held.says("The PAD is emptied: how many signs there were.");
        Held.due("wipe(), full", x.wipe(), 12);
        Held.due("told(1)", x.told(1), 0);
        Held.due("wipe(), empty", x.wipe(), 0);
        Held.due("say('1'), from the first again", x.say('1'), 1);
        Held.due("wipe()", x.wipe(), 1);
        Held.says("THE FAULT of the PAD; NONE.");
        Held.due("fault(), empty", x.fault(), -6);
        Held.pad(x, "12i");
        Held.due("fault()", x.fault(), 2);
        Held.due("fault(), again", x.fault(), 2);
        Held.due("wipe(), a FAULT goes with it", x.wipe(), 3);
        Held.due("fault()", x.fault(), -6);
        Held.pad(x, "1");
        Held.due("fault(), no sign of before", x.fault(), -6);
    }

    private static void hasCall() {
        Held.says("A KIND HAS a NAME with the PAD as its BODY (it is empty then): 1 (0: it had one). UNKNOWN; NO: there is a FAULT.");
        AnswerLines x = Held.made("", "0", "01");
        Held.pad(x, "123456789012");
        Held.due("has(0, 0), a full PAD", x.has(0, 0), 1);
        Held.due("told(1), it is empty then", x.told(1), 0);
        Held.due("has(0, 0), an empty PAD", x.has(0, 0), 0);
        Held.row("the BODY is empty now", Held.run(x, 0, 0), 0);
        Held.due("has(1, 0), 0 HAS it, but 1 had none", x.has(1, 0), 1);
        Held.due("has(2, 7), without a LINE", x.has(2, 7), 1);
        Held.due("told(12)", x.told(12), 128);
        x.drop(0, 0);
        Held.due("has(0, 0), dropped", x.has(0, 0), 1);
        Held.pad(x, "5i");
        Held.due("has(0, 0), a FAULT, where it HAS it", x.has(0, 0), -5);
        Held.due("has(0, 1), a FAULT, where it does not", x.has(0, 1), -5);
        Held.due("told(10)", x.told(10), 1);
        Held.due("told(1), the PAD stays", x.told(1), 2);
        x.wipe();
        for (int name : new int[] {-1, 8, MIN, MAX}) Held.due("has(0, " + name + ")", x.has(0, name), -1);
        for (int kind : new int[] {-1, 3, 10, MIN, MAX}) Held.due("has(" + kind + ", 0)", x.has(kind, 0), -1);
        x.say('4');
        Held.due("has(3, 0), a PAD without FAULT", x.has(3, 0), -1);
        Held.due("told(1), the PAD stays", x.told(1), 1);
    }

    private static void dropCall() {
        Held.says("A KIND HAS a NAME no more: how many signs its BODY had. UNKNOWN; NO: it does not HAVE it.");
        AnswerLines x = Held.made("", "0", "01");
        Held.give(x, 0, 0, "123456789012");
        Held.due("drop(1, 0), one ABOVE HAS it", x.drop(1, 0), -5);
        Held.due("drop(0, 1), another NAME", x.drop(0, 1), -5);
        Held.due("drop(0, 0)", x.drop(0, 0), 12);
        Held.due("drop(0, 0), again", x.drop(0, 0), -5);
        Held.due("told(10)", x.told(10), 0);
        x.has(2, 7);
        Held.due("drop(2, 7), an empty BODY, without a LINE", x.drop(2, 7), 0);
        Held.give(x, 1, 3, "11");
        Held.give(x, 1, 4, "1");
        Held.pad(x, "i");
        Held.due("drop(1, 3), whatever is on the PAD", x.drop(1, 3), 2);
        Held.due("told(1), the PAD stays", x.told(1), 1);
        Held.due("told(11), the other NAME stays", x.told(11), 16);
        for (int name : new int[] {-1, 8, MIN, MAX}) Held.due("drop(1, " + name + ")", x.drop(1, name), -1);
        for (int kind : new int[] {-1, 3, MIN, MAX}) Held.due("drop(" + kind + ", 4)", x.drop(kind, 4), -1);
    }

    private static void answerCall() {
        Held.says("ANSWER; NONE. UNKNOWN; STATE: it has no LINE.");
        AnswerLines x = Held.made("", "0", "01");
        Held.due("answer(1, 7)", x.answer(1, 7), -6);
        x.has(0, 7);
        x.has(2, 7);
        Held.due("answer(1, 7)", x.answer(1, 7), 0);
        Held.due("answer(2, 7), it HAS the NAME, but no LINE", x.answer(2, 7), -3);
        for (int name : new int[] {-1, 8, MIN, MAX}) Held.due("answer(1, " + name + ")", x.answer(1, name), -1);
        for (int kind : new int[] {-1, 3, MIN, MAX}) Held.due("answer(" + kind + ", 7)", x.answer(kind, 7), -1);
    }

    private static void nextCall() {
        Held.says("NEXT behind a KIND of THE LINE; NONE. UNKNOWN: also it is not in THE LINE; STATE (ahead of that): no LINE.");
        AnswerLines x = Held.made("", "0", "01", "1", "2", "0");
        x.has(0, 7);
        x.has(3, 7);
        Held.due("next(3, 7, 3), behind itself", x.next(3, 7, 3), 0);
        Held.due("next(3, 7, 1)", x.next(3, 7, 1), 0);
        Held.due("next(3, 7, 0), nothing is behind it", x.next(3, 7, 0), -6);
        Held.due("next(3, 6, 3), nobody", x.next(3, 6, 3), -6);
        Held.due("next(0, 7, 0)", x.next(0, 7, 0), -6);
        Held.due("next(3, 7, 5), a KIND that is not in THE LINE", x.next(3, 7, 5), -1);
        Held.due("next(1, 7, 3), one BELOW it", x.next(1, 7, 3), -1);
        Held.due("next(3, 7, 2), one without a LINE", x.next(3, 7, 2), -1);
        for (int behind : new int[] {-1, 6, MIN, MAX}) Held.due("next(3, 7, " + behind + ")", x.next(3, 7, behind), -1);
        for (int name : new int[] {-1, 8, MIN, MAX}) Held.due("next(3, " + name + ", 3)", x.next(3, name, 3), -1);
        for (int kind : new int[] {-1, 6, MIN, MAX}) Held.due("next(" + kind + ", 7, 0)", x.next(kind, 7, 0), -1);
        Held.due("next(2, 7, 0), no LINE", x.next(2, 7, 0), -3);
        Held.due("next(2, 7, 2), no LINE, not even of itself", x.next(2, 7, 2), -3);
        Held.due("next(2, 7, 5), STATE ahead of not in THE LINE", x.next(2, 7, 5), -3);
        Held.due("next(4, 7, 5), BELOW one without a LINE", x.next(4, 7, 5), -3);
        Held.due("next(2, 7, 6), but there is no such KIND", x.next(2, 7, 6), -1);
        Held.due("next(2, 8, 0), but there is no such NAME", x.next(2, 8, 0), -1);
    }

    private static void runCall() {
        Held.says("A RUN: how it ENDS (i = -1), how many digits it SAID (-2), the i-th one; NONE. UNKNOWN; STATE: no LINE.");
        AnswerLines x = Held.made("", "0", "01");
        Held.give(x, 0, 7, "90");
        x.has(2, 7);
        Held.due("run(1, 7, -1)", x.run(1, 7, -1), 0);
        Held.due("run(1, 7, -2)", x.run(1, 7, -2), 2);
        Held.due("run(1, 7, 0), from 0 on", x.run(1, 7, 0), 9);
        Held.due("run(1, 7, 1)", x.run(1, 7, 1), 0);
        for (int i : new int[] {2, 40, -3, MIN, MAX}) Held.due("run(1, 7, " + i + ")", x.run(1, 7, i), -6);
        Held.due("run(1, 6, -1), nobody answers", x.run(1, 6, -1), 1);
        Held.due("run(1, 6, -2)", x.run(1, 6, -2), 0);
        Held.due("run(1, 6, 0), nothing is left of a RUN before it", x.run(1, 6, 0), -6);
        for (int i : new int[] {-2, -1, 0, 40, -3}) {
            Held.due("run(2, 7, " + i + ")", x.run(2, 7, i), -3);
            Held.due("run(3, 7, " + i + ")", x.run(3, 7, i), -1);
            Held.due("run(-1, 7, " + i + ")", x.run(-1, 7, i), -1);
            Held.due("run(1, 8, " + i + ")", x.run(1, 8, i), -1);
            Held.due("run(1, -1, " + i + ")", x.run(1, -1, i), -1);
        }
        Held.due("run(min, 7, -1)", x.run(MIN, 7, -1), -1);
        Held.due("run(1, max, -1)", x.run(1, MAX, -1), -1);
    }

    private EdgesOfAnswers() {
    }
}
