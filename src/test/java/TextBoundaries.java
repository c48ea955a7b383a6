/** The boundary cases of the text: in the section "Terms", and in promises 2 to 5. */
final class TextBoundaries extends Boundaries {
    private static final String DIGITS = "0123456789";
    private static final String LETTERS = "cmopehd";
    /** 120 characters that are a term. */
    private static final String FULL = "S" + "h0".repeat(58) + "c00";

    private TextBoundaries() {
    }

    static void testAll() {
        longestText();
        anyNumberOfCommands();
        commandC();
        commandM();
        commandO();
        otherOrder();
        commandP();
        commandE();
        commandH();
        commandD();
        whatIsLeftOut();
        noBlanks();
        firstWrongCharacter();
        impossibleDigits();
        tooShort();
        firstDayAboveTheSecond();
        characterCodes();
        newLength();
        characterOutOfRange();
        oneCharacterTooMany();
        emptied();
        previousLength();
        noneForATerm();
        asInANewObject();
        nothingIsRemembered();
        keepsTheText();
        howManyAreLeftOut();
        notATerm();
    }

    /** That after this beginning these characters are allowed, and no others; whether it is a term with them. */
    private static void allows(boolean isTermThen, String beginning, String characters) {
        int due = isTermThen ? NONE : beginning.length() + 1;
        MealAccounts accounts = new MealAccounts();
        for (int code = 0; code <= 255; code++) {
            if (code % 20 == 0) {
                accounts = new MealAccounts();
            }
            accounts.clearText();
            for (char c : (beginning + (char) code).toCharArray()) {
                accounts.append(c);
            }
            int got = accounts.errorPosition();
            int dueHere = characters.indexOf(code) >= 0 ? due : beginning.length();
            if (got != dueHere) {
                Run.fault("the text " + beginning + ", then the character " + code + ": the error position is " + got
                        + ", due is " + dueHere);
            }
        }
    }

    private static void error(Run run, int position, String text) {
        run.text(text).asked(position, "errorPosition");
    }

    private static void longestText() {
        Run run = terms("The object has a text buffer of at most 120 characters.").text(FULL);
        run.asked(NONE, "errorPosition").refused(STATE, "append", 0).refused(STATE, "append", (int) 'h');
        run.due(0, "load").asked(1, "about", 1).due(120, "clearText");
        Run other = terms("The object has a text buffer of at most 120 characters.").text("S" + "d1".repeat(59));
        other.due(120, "append", (int) 'S').refused(STATE, "append", (int) 'S').asked(119, "errorPosition");
    }

    private static void anyNumberOfCommands() {
        String sentence = "A term as a text is S, and then any number of commands:";
        Run none = terms(sentence).text("S").asked(NONE, "errorPosition").due(0, "load");
        none.stateLike(new Run("a new object"));
        terms(sentence).text("Sh0").asked(NONE, "errorPosition").due(0, "load").asked(1, "family", 0, 1);
        terms(sentence).text("S" + "h0".repeat(59)).asked(NONE, "errorPosition").due(0, "load").asked(1, "family", 0, 1);
        terms(sentence).text("S" + "h0".repeat(58)).asked(NONE, "errorPosition").due(0, "load").asked(0, "family", 0, 1);
        terms(sentence).text(FULL).asked(NONE, "errorPosition").due(0, "load").asked(1, "about", 1);
        terms(sentence).asked(0, "errorPosition").refused(STATE, "load");
        allows(true, "", "S");
        allows(false, "S", LETTERS);
        for (String command : new String[] {"c00", "c43", "m000", "m393", "o0000", "o1139", "p000001", "p119999", "e000000",
            "e113939", "h0", "h4", "d1", "d9"}) {
            allows(false, "S" + command, LETTERS);
            allows(false, "S" + command + command, LETTERS);
        }
    }

    private static void commandC() {
        String sentence = "c, a digit for a family (0 to 4), and one for a diet (0 to 3): a child comes;";
        allows(false, "Sc", "01234");
        for (int f = 0; f <= 4; f++) {
            allows(true, "Sc" + f, "0123");
        }
        Run run = terms(sentence).text("Sc00c43c01c40").due(0, "load").asked(4, "about", 1);
        run.asked(0, "child", 0, 0).asked(0, "child", 0, 1).asked(4, "child", 1, 0).asked(3, "child", 1, 1);
        run.asked(0, "child", 2, 0).asked(1, "child", 2, 1).asked(4, "child", 3, 0).asked(0, "child", 3, 1);
    }

    private static void commandM() {
        String sentence = "m, two digits for a day (00 to 39) and one for a menu (0: without both, 1: with meat, 2: with milk,"
                + " 3: with both);";
        allows(false, "Sm", "0123");
        for (int tens = 0; tens <= 3; tens++) {
            allows(false, "Sm" + tens, DIGITS);
            allows(true, "Sm" + tens + "0", "0123");
            allows(true, "Sm" + tens + "9", "0123");
        }
        Run run = terms(sentence).text("Sm003m393m011m102").due(0, "load").asked(3, "day", 0, 0).asked(3, "day", 39, 0);
        run.asked(1, "day", 1, 0).asked(2, "day", 10, 0).asked(0, "day", 38, 0);
        terms(sentence).text("Sm003m000").due(0, "load").asked(0, "day", 0, 0);
    }

    private static void commandO() {
        String sentence = "o, two digits for a child (00 to 11) and two for a day:";
        allows(false, "So", "01");
        allows(false, "So0", DIGITS);
        allows(false, "So1", "01");
        for (String child : new String[] {"00", "09", "10", "11"}) {
            allows(false, "So" + child, "0123");
            for (int tens = 0; tens <= 3; tens++) {
                allows(true, "So" + child + tens, DIGITS);
            }
        }
        Run run = terms(sentence).text("S" + "c00".repeat(12) + "o0000o1139o0910o1009").due(0, "load").asked(4, "about", 2);
        run.asked(1, "meal", 0, 0, 0).asked(1, "meal", 11, 39, 0).asked(1, "meal", 9, 10, 0).asked(1, "meal", 10, 9, 0);
    }

    private static void otherOrder() {
        for (int times = 1; times <= 4; times++) {
            Run run = terms("it orders, or does not any more;").text("Sc00" + "o0039".repeat(times)).due(0, "load");
            run.asked(times % 2, "meal", 0, 39, 0).asked(times % 2, "about", 2);
        }
    }

    private static void commandP() {
        String sentence = "p, two digits for a child and four for an amount (0001 to 9999): so much is paid in;";
        allows(false, "Sp", "01");
        allows(false, "Sp0", DIGITS);
        allows(false, "Sp1", "01");
        for (String before : new String[] {"Sp00", "Sp000", "Sp0000", "Sp009", "Sp0099", "Sp11", "Sp110", "Sp1100"}) {
            allows(false, before, DIGITS);
        }
        allows(true, "Sp00000", "123456789");
        allows(true, "Sp11000", "123456789");
        for (String before : new String[] {"001", "010", "100", "900", "999", "099", "009", "109"}) {
            allows(true, "Sp00" + before, DIGITS);
        }
        Run run = terms(sentence).text("Sc00c00p000001p019999p011000").due(0, "load").asked(1, "child", 0, 2);
        run.asked(10999, "child", 1, 2).asked(11000, "about", 8);
    }

    private static void commandE() {
        String sentence = "e, two digits for a child and twice two for days: it is entitled from the first to the second one;";
        allows(false, "Se", "01");
        allows(false, "Se0", DIGITS);
        allows(false, "Se1", "01");
        for (String child : new String[] {"00", "09", "10", "11"}) {
            allows(false, "Se" + child, "0123");
            allows(false, "Se" + child + "0", DIGITS);
            allows(false, "Se" + child + "3", DIGITS);
            allows(false, "Se" + child + "00", "0123");
            allows(false, "Se" + child + "39", "0123");
            for (int tens = 0; tens <= 3; tens++) {
                allows(true, "Se" + child + "00" + tens, DIGITS);
                allows(true, "Se" + child + "39" + tens, DIGITS);
            }
        }
        Run run = terms(sentence).text("Sc00c00c00e000000e013939e020039").due(0, "load").asked(0, "child", 0, 3);
        run.asked(0, "child", 0, 4).asked(39, "child", 1, 3).asked(39, "child", 1, 4).asked(0, "child", 2, 3);
        run.asked(39, "child", 2, 4);
        // What went by is settled, too.
        terms(sentence).text("Sc00o0000d1e000000").due(0, "load").asked(3, "meal", 0, 0, 0).asked(0, "child", 0, 2);
    }

    private static void commandH() {
        String sentence = "h and a digit for a family: it shares, or does not any more;";
        allows(true, "Sh", "01234");
        for (int times = 1; times <= 4; times++) {
            Run run = terms(sentence).text("Sh0" + "h4".repeat(times)).due(0, "load").asked(times % 2, "family", 4, 1);
            run.asked(1, "family", 0, 1).asked(0, "family", 3, 1);
        }
    }

    private static void commandD() {
        String sentence = "d and a digit (1 to 9): so many days go by.";
        allows(true, "Sd", "123456789");
        terms(sentence).text("Sd1").due(0, "load").asked(1, "about", 0);
        terms(sentence).text("Sd9").due(0, "load").asked(9, "about", 0);
        terms(sentence).text("Sd9d9d9d9d4").due(0, "load").asked(40, "about", 0);
    }

    private static void leftOut(int due, String text, int what, int about) {
        terms("Commands that would throw an exception are left out.").text(text).due(due, "load").asked(about, "about", what);
    }

    private static void whatIsLeftOut() {
        // One child too many; the last child that there is, and the first one that there is not.
        leftOut(0, "S" + "c00".repeat(12), 1, 12);
        leftOut(1, "S" + "c00".repeat(13), 1, 12);
        leftOut(1, "Sc00o0000o0100", 2, 1);
        leftOut(1, "Sc00p000001p010001", 8, 1);
        leftOut(1, "Sc00o0000d1e010039e000039", 5, 1);
        leftOut(1, "S" + "c00".repeat(11) + "o1139c00", 2, 0);
        leftOut(0, "S" + "c00".repeat(12) + "o1139", 2, 1);
        // Today, and the day before it.
        leftOut(0, "Sc00d1o0001", 2, 1);
        leftOut(1, "Sc00d1o0000", 2, 0);
        leftOut(1, "Sc00o0000d1o0000", 4, 1);
        leftOut(0, "Sc01o0001d1m011d1", 7, 1);
        leftOut(1, "Sc01o0001d2m011d1", 7, 0);
        // As many days as are left, and one more.
        leftOut(0, "Sd9d9d9d9d4", 0, 40);
        leftOut(1, "Sd9d9d9d9d5", 0, 36);
        leftOut(1, "Sd9d9d9d9d4d1", 0, 40);
        // The first of two days may be the second one, but not above it.
        leftOut(0, "Sc00o0005d6e000505", 5, 1);
        leftOut(1, "Sc00o0005d6e000605", 5, 0);
    }

    private static void noBlanks() {
        String[] texts = {"Sc00", "Sm003", "So0000", "Sp000001", "Se000039", "Sh0", "Sd1"};
        for (String text : texts) {
            Run run = terms("There are no blanks.");
            for (int i = 0; i <= text.length(); i++) {
                run.text(text.substring(0, i) + " " + text.substring(i)).due(i, "errorPosition");
            }
            run.refused(STATE, "load");
        }
        terms("There are no blanks.").text(" ").asked(0, "errorPosition");
    }

    private static void firstWrongCharacter() {
        Run run = terms("The error position is the index of the first character that these rules do not allow at its place");
        error(run, 0, "sx");
        error(run, 0, "c00S");
        error(run, 1, "SSc00");
        error(run, 2, "Sc5x");
        error(run, 4, "Sc00x5");
        error(run, 6, "Sc00h0xd0");
        Run last = terms("The error position is the index of the first character that these rules do not allow at its place");
        error(last, 119, "S" + "h0".repeat(59) + "x");
        error(last, 119, "S" + "h0".repeat(59) + "0");
        error(last, 118, "S" + "h0".repeat(58) + "h5c");
    }

    private static void impossibleDigits() {
        Run run = terms("(a digit is not allowed if no number that is allowed begins with it and those before it);");
        error(run, 2, "Sc5");
        error(run, 3, "Sc44");
        error(run, 2, "Sm4");
        error(run, 2, "So2");
        error(run, 3, "So12");
        error(run, 4, "So114");
        error(run, 2, "Sd0");
        error(run, 7, "Sp000000");
        error(run, 6, "Sp0000x0");
        Run more = terms("(a digit is not allowed if no number that is allowed begins with it and those before it);");
        error(more, 3, "Se12");
        error(more, 4, "Se114");
        error(more, 6, "Se00394");
        error(more, 2, "Sh5");
        error(more, 4, "Sm394");
        error(more, NONE, "Sm393");
        error(more, NONE, "Sp000010");
    }

    private static void tooShort() {
        String sentence = "if the text ends too soon, it is the length of the text.";
        terms(sentence).asked(0, "errorPosition");
        for (String text : new String[] {"Sc43", "Sm393", "So1139", "Sp119999", "Se113939", "Sh4", "Sd9"}) {
            Run run = terms(sentence);
            for (int length = 2; length < text.length(); length++) {
                run.text(text.substring(0, length)).due(length, "errorPosition");
            }
            run.text("S" + text.substring(1) + text.substring(1, 2)).due(text.length() + 1, "errorPosition");
        }
        terms(sentence).text("S" + "h0".repeat(59) + "d").asked(120, "errorPosition");
        terms(sentence).text("S" + "h0".repeat(57) + "p1199").asked(120, "errorPosition");
    }

    private static void firstDayAboveTheSecond() {
        String sentence = "That the first of two days is above the second one does not matter for it.";
        terms(sentence).text("Sc00e003900e000100").asked(NONE, "errorPosition").due(2, "load").asked(NONE, "child", 0, 3);
        terms(sentence).text("Sc00e003938").asked(NONE, "errorPosition").due(1, "load").asked(NONE, "child", 0, 4);
    }

    private static void characterCodes() {
        Document.quote("Promise 2", "Appends a character to the text buffer.");
        Run run = promise(2, "c: character code, 0 to 255").due(1, "append", 0).due(2, "append", 255);
        run.refused(ARGUMENT, "append", -1).refused(ARGUMENT, "append", 256).due(2, "clearText");
        // Only the very code of S begins a term, and not one that is the same in 8 or 16 bits.
        for (int code : values('S', 'S' + 128, 'S' - 1, 'S' + 1, 's')) {
            run.due(1, "append", code).asked(code == 'S' ? NONE : 0, "errorPosition").due(1, "clearText");
        }
        run.refusedEach(ARGUMENT, values('S' + 256, 'S' + 65536, 'S' - 256, 'S' + (1 << 31)), "append", EACH);
    }

    private static void newLength() {
        Run run = promise(2, "Returns the new length of the text.");
        for (int length = 1; length <= 120; length++) {
            run.due(length, "append", length);
        }
        run.due(120, "clearText").due(1, "append", 7).due(2, "append", 7);
    }

    private static void characterOutOfRange() {
        Run run = promise(2, "Throws IllegalArgumentException if c is out of range");
        run.refusedEach(ARGUMENT, values(-1, 256, 257, LOWEST, HIGHEST), "append", EACH).due(1, "append", 255);
        run.text(FULL).refusedEach(ARGUMENT, values(-1, 256, LOWEST, HIGHEST), "append", EACH);
    }

    private static void oneCharacterTooMany() {
        Run run = promise(2, "Throws IllegalStateException if the text already has 120 characters");
        run.text(FULL.substring(0, 119)).due(120, "append", 0).refused(STATE, "append", 0).refused(STATE, "append", 255);
        run.asked(119, "errorPosition").due(120, "clearText").due(1, "append", 255);
    }

    private static void emptied() {
        Run run = promise(3, "Empties the text buffer.").due(0, "clearText").asked(0, "errorPosition");
        run.text("Sd1").due(3, "clearText").asked(0, "errorPosition").refused(STATE, "load").text("S");
        run.asked(NONE, "errorPosition").text(FULL).due(120, "clearText").asked(0, "errorPosition");
        for (int i = 1; i <= 120; i++) {
            run.due(i, "append", (int) FULL.charAt(i - 1));
        }
        run.asked(NONE, "errorPosition");
    }

    private static void previousLength() {
        Run run = promise(3, "Returns the previous length of the text.").due(0, "clearText").due(1, "append", 0);
        run.due(1, "clearText").due(0, "clearText").text(FULL).due(120, "clearText").due(0, "clearText");
        run.text(FULL.substring(0, 119)).due(119, "clearText");
    }

    private static void noneForATerm() {
        Document.quote("Promise 4", "Checks the text.");
        String sentence = "Returns the error position of the text; NONE if it is a term.";
        promise(4, sentence).asked(0, "errorPosition").text("S").asked(NONE, "errorPosition");
        promise(4, sentence).text(FULL).asked(NONE, "errorPosition");
        promise(4, sentence).text(FULL.substring(0, 119)).asked(119, "errorPosition");
        promise(4, sentence).text(FULL.substring(0, 117)).asked(NONE, "errorPosition");
        // Whether the commands can be done does not matter for it.
        promise(4, sentence).text("So1139p119999e113900d9d9d9d9d9m000").asked(NONE, "errorPosition");
    }

    /** All of the state differs from that of a new object, and both slots and 14 states are taken. */
    private static Run used(Run run) {
        children(run, 0, 0, 1).due(0, "share", 0, true).due(0, "share", 4, true).due(0, "menu", 0, 3).due(0, "menu", 39, 3);
        orders(orders(run, 0, 1, 2, 39), 1, 0, 1).due(250, "set", 0, 999).due(500, "set", 1, 9999);
        run.due(7, "pay", 2, 7).due(0, "entitle", 1, 0, 39).due(4, "days", 3);
        return run.due(2 * 999, "writeOff", 0).due(3, "save", 0).due(3, "save", 1);
    }

    private static void asInANewObject() {
        String sentence = "Makes everything as in a new object, and then does the commands of the text.";
        for (String text : new String[] {"S", "Sc11", "Sc00c00o0000o0001d1", "Sd9d9d9d9d4"}) {
            Run due = new Run("loaded at once").text(text).call("load");
            Run run = used(promise(5, sentence)).text(text).due(0, "load").like(due);
            run.due(0, "load").like(due);
        }
        Run run = used(promise(5, sentence)).text("S").due(0, "load").asked(250, "setting", 0).asked(500, "setting", 1);
        run.asked(0, "about", 0).asked(0, "about", 1).asked(0, "about", 8).asked(0, "about", 10).stateLike(new Run("new"));
        // In the order in which they stand.
        promise(5, sentence).text("Sc00o0000d1c01o0101").due(0, "load").asked(1, "about", 0).asked(1, "about", 2);
        promise(5, sentence).text("So0000c00").due(1, "load").asked(0, "about", 2);
    }

    private static void nothingIsRemembered() {
        for (int actions : values(0, 1, 13, 14, 15, 20)) {
            Run run = promise(5, "Behind it no state is remembered, and both save slots are empty.");
            for (int i = 0; i < actions; i++) {
                run.call("share", 1, i % 2 == 0);
            }
            run.due(0, "save", 0).due(0, "save", 1).text("Sc00h0d1").due(0, "load").refused(STATE, "undo");
            run.refused(STATE, "restore", 0).refused(STATE, "restore", 1).did(0, "share", 0, false).due(0, "undo");
            run.refused(STATE, "undo").due(1, "save", 1).refused(STATE, "restore", 0).due(1, "restore", 1);
        }
    }

    private static void keepsTheText() {
        Run run = promise(5, "Keeps the text.").text(FULL).due(0, "load").asked(NONE, "errorPosition").due(0, "load");
        run.refused(STATE, "append", 0).due(120, "clearText").text("S").due(0, "load").due(2, "append", (int) 'd');
        run.due(3, "append", (int) '1').due(0, "load").asked(1, "about", 0).due(3, "clearText");
    }

    private static void howManyAreLeftOut() {
        String sentence = "Returns the number of commands that are left out.";
        promise(5, sentence).text("S").due(0, "load");
        promise(5, sentence).text("S" + "o0000".repeat(23)).due(23, "load");
        promise(5, sentence).text("S" + "d9".repeat(59)).due(55, "load").asked(36, "about", 0);
        promise(5, sentence).text("S" + "d1".repeat(59)).due(19, "load").asked(40, "about", 0);
        promise(5, sentence).text("Sc00p010001").due(1, "load");
    }

    private static void notATerm() {
        String sentence = "Throws IllegalStateException if the text is not a term";
        for (String text : new String[] {"", "s", "Sc", "Sc0", "Sc05", "Sc00 ", "Sd0", "S" + "h0".repeat(59) + "d", "\u0000"}) {
            Run run = used(promise(5, sentence)).text(text).refused(STATE, "load").due(13, "undo").due(3, "restore", 0);
        }
    }
}
