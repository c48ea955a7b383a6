/** Promises 1 to 5: a new object, and the text. */
public final class TextTest {
    private static final int NONE = Run.NONE;
    private static final Class<?> INDEX = Run.INDEX;
    private static final Class<?> ARGUMENT = Run.ARGUMENT;
    private static final Class<?> STATE = Run.STATE;

    private TextTest() {
    }

    public static void main(String[] args) {
        promise1NewObject();
        promise2Append();
        promise3ClearText();
        promise4Terms();
        promise4Errors();
        promise4TooShort();
        promise5Load();
        promise5LeftOut();
        promise5NotATerm();
        Run.end();
    }

    private static void promise1NewObject() {
        Run run = new Run("promise 1");
        for (int what = 0; what <= 11; what++) {
            run.asked(0, "about", what);
        }
        for (int f = 0; f < 5; f++) {
            for (int what = 0; what <= 4; what++) {
                run.due(0, "family", f, what);
            }
            run.due(NONE, "needs", f);
        }
        for (int d = 0; d < 40; d++) {
            for (int what = 0; what <= 3; what++) {
                run.due(0, "day", d, what);
            }
        }
        run.due(250, "setting", 0).due(500, "setting", 1);
        run.refused(INDEX, "child", 0, 0).refused(INDEX, "meal", 0, 0, 0);
        run.refused(STATE, "undo").refused(STATE, "restore", 0).refused(STATE, "restore", 1);
        run.asked(0, "errorPosition").asked(NONE, "bestEntitled").asked(0, "clearText");
        Run come = new Run("promise 1, a new child");
        come.due(0, "come", 4, 3).asked(4, "child", 0, 0).asked(3, "child", 0, 1);
        come.asked(0, "child", 0, 2).asked(NONE, "child", 0, 3).asked(NONE, "child", 0, 4);
        for (int what = 5; what <= 8; what++) {
            come.asked(0, "child", 0, what);
        }
        for (int d = 0; d < 40; d++) {
            come.due(0, "meal", 0, d, 0).due(NONE, "meal", 0, d, 1).due(NONE, "meal", 0, d, 2);
        }
    }

    private static void promise2Append() {
        Run run = new Run("promise 2");
        run.due(1, "append", 'S' + 0).due(2, "append", 0).due(3, "append", 255);
        run.refused(ARGUMENT, "append", -1).refused(ARGUMENT, "append", 256);
        run.refused(ARGUMENT, "append", Integer.MIN_VALUE).refused(ARGUMENT, "append", Integer.MAX_VALUE);
        run.refused(ARGUMENT, "append", 65536 + 'S');
        run.asked(1, "errorPosition").due(3, "clearText");
        run.text("S" + "h0".repeat(59) + "d").asked(120, "errorPosition");
        run.refused(STATE, "append", '1' + 0).refused(STATE, "append", 0).refused(STATE, "append", 255);
        run.refused(ARGUMENT, "append", -1).refused(ARGUMENT, "append", 256);
        run.due(120, "clearText").due(1, "append", 'S' + 0).asked(NONE, "errorPosition");
        // A character is no action.
        Run acted = new Run("promise 2, no action");
        acted.due(0, "come", 0, 0).due(1, "append", 'S' + 0).due(0, "undo").asked(NONE, "errorPosition");
        acted.due(1, "clearText");
    }

    private static void promise3ClearText() {
        Run run = new Run("promise 3");
        run.due(0, "clearText").text("Sc00").due(4, "clearText").due(0, "clearText").asked(0, "errorPosition");
        run.text("Sd1").asked(NONE, "errorPosition").due(3, "clearText");
        run.text("S").asked(NONE, "errorPosition").due(1, "clearText");
        Run acted = new Run("promise 3, no action");
        acted.text("Sc00").due(0, "come", 0, 0).due(0, "save", 0).due(4, "clearText").due(1, "about", 1);
        acted.due(0, "restore", 0).asked(0, "errorPosition").refused(STATE, "undo");
    }

    private static void term(String... terms) {
        for (String term : terms) {
            new Run("promise 4, " + term).text(term).asked(NONE, "errorPosition");
        }
    }

    private static void error(int position, String... texts) {
        for (String text : texts) {
            new Run("promise 4, " + text).text(text).asked(position, "errorPosition");
        }
    }

    private static void promise4Terms() {
        term("S", "Sc00", "Sc43", "Sm000", "Sm393", "Sm192", "So0000", "So1139", "So0919", "So1009");
        term("Sp000001", "Sp119999", "Sp000010", "Sp000100", "Sp001000", "Sp109090");
        term("Se000000", "Se113939", "Se003900", "Se052010", "Sh0", "Sh4", "Sd1", "Sd9");
        term("Sc00c43m393o1139p119999e113900h4d9", "Sd1d1d1", "S" + "c00".repeat(39) + "h0");
        term("S" + "h0".repeat(58) + "c00");
    }

    private static void promise4Errors() {
        error(0, "s", " S", "c00", "0", "\u0000", "\u00ff", "xS", "5S");
        error(1, "SS", "S ", "Sx", "SC00", "S0", "S\n", "Sf", "Sa", "Sb", "Ss", "Sn", "Sl", "Si", "Sg", "Sq", "SD1");
        error(2, "Sc5", "Sc9", "Sc ", "Scc", "Sc/", "Sc:", "Sc-1", "Sh5", "Sh ", "Sd0", "Sd:", "Sd/", "Sd\u00b2");
        error(2, "Sm4", "Sm9", "Sm-", "So2", "So9", "Sp2", "Se2", "Se9", "Soo", "Sp ", "Sm\u00b9", "Sc5x", "Sd0d0");
        error(3, "Sc04", "Sc09", "Sc4a", "Sc4 ", "Sm3a", "Sm0:", "So12", "So19", "Sp12", "Se12", "Se1/", "Sd10");
        error(3, "Sd11", "Sh00", "Sh0 ", "Sh0S", "Sd1x");
        error(4, "Sm394", "Sm009", "Sm00/", "Sc000", "So004", "So119", "Se004", "Se115", "Sp00-", "Sp00a");
        error(4, "Sc00x", "Sc00S", "Sc00 c00", "Sd1c5", "Sh0c9");
        error(5, "Sm0000", "So000:", "So003x", "Sp000x", "Se000a");
        error(6, "Se00004", "Se00399", "Sp0000:", "So00000", "So11391", "Sp0000x");
        error(7, "Sp000000", "Sp110000", "Sp00000a", "Sp00999x", "Se00000:");
        error(8, "Sp0000011", "Se0000000", "Se113939x", "Sp119999 ");
        error(118, "S" + "h0".repeat(58) + "c5", "S" + "h0".repeat(58) + "c9h");
        error(119, "S" + "h0".repeat(59) + "x", "S" + "h0".repeat(59) + "0");
    }

    private static void promise4TooShort() {
        error(0, "");
        error(2, "Sc", "Sm", "So", "Sp", "Se", "Sh", "Sd");
        error(3, "Sc4", "Sm3", "So1", "Sp1", "Se1");
        error(4, "Sm39", "So11", "Sp11", "Se11", "Sh0d", "Sd1c");
        error(5, "So113", "Sp119", "Sp000", "Se113", "Sc00o");
        error(6, "Sp0000", "Sp1199", "Se1139", "Sm000m");
        error(7, "Sp00000", "Sp11999", "Se11393");
        error(120, "S" + "h0".repeat(59) + "d", "S" + "h0".repeat(58) + "o11");
    }

    private static Run loaded(int leftOut, String text) {
        return new Run("promise 5, " + text).text(text).due(leftOut, "load");
    }

    private static void promise5Load() {
        // Each command, beside the action that it stands for.
        loaded(0, "S").stateLike(new Run("nothing")).refused(STATE, "undo");
        loaded(0, "Sc42").stateLike(new Run("come").call("come", 4, 2));
        loaded(0, "Sm393m001").stateLike(new Run("menu").call("menu", 39, 3).call("menu", 0, 1));
        Run order = new Run("order").call("come", 0, 0).call("order", 0, 39, true);
        loaded(0, "Sc00o0039").stateLike(order);
        loaded(0, "Sc00o0039o0005o0005").stateLike(order);
        loaded(0, "Sc00o0039o0039o0039").stateLike(order);
        loaded(0, "Sc00p009999p000001").stateLike(new Run("pay").call("come", 0, 0).call("pay", 0, 9999)
                .call("pay", 0, 1));
        loaded(0, "Sc00e000539").stateLike(new Run("entitle").call("come", 0, 0).call("entitle", 0, 5, 39));
        loaded(0, "Sc00e000505").stateLike(new Run("entitle").call("come", 0, 0).call("entitle", 0, 5, 5));
        loaded(0, "Sh3").stateLike(new Run("share").call("share", 3, true));
        loaded(0, "Sh3h3").stateLike(new Run("nothing"));
        loaded(0, "Sh3h3h3h1").stateLike(new Run("share").call("share", 3, true).call("share", 1, true));
        loaded(0, "Sd9d1").stateLike(new Run("days").call("days", 10));
        loaded(0, "Sc00o0000d1e000039").asked(0, "child", 0, 2).asked(3, "meal", 0, 0, 0).asked(1, "about", 0);

        // Everything else becomes as in a new object; the text stays.
        String text = "Sc00c01o0000d1p000100";
        Run run = new Run("promise 5");
        run.due(0, "come", 2, 2).due(1, "come", 0, 0).due(0, "share", 2, true).due(0, "menu", 3, 1);
        run.due(0, "menu", 0, 1).due(250, "set", 0, 300).due(500, "set", 1, 230).due(1, "order", 1, 0, true);
        run.due(2, "order", 0, 0, true).due(70, "pay", 0, 70).due(0, "entitle", 1, 0, 3).due(0, "order", 1, 7, false);
        run.due(0, "save", 0).due(2, "days", 2).due(-230, "child", 0, 2);
        run.due(230, "writeOff", 2).due(2, "save", 1).text(text).due(0, "load");
        run.like(loaded(0, text)).refused(STATE, "undo").refused(STATE, "restore", 0).refused(STATE, "restore", 1);
        run.asked(1, "about", 0).asked(2, "about", 1).asked(100, "about", 8).asked(250, "about", 9);
        run.asked(0, "about", 10).asked(-150, "about", 11).asked(250, "setting", 0).asked(500, "setting", 1);
        run.asked(NONE, "errorPosition").due(0, "load").like(loaded(0, text)).due(21, "clearText");
        run.did(2, "come", 1, 1).did(-100, "pay", 0, 50).due(1, "save", 0).due(1, "restore", 0);
    }

    private static void promise5LeftOut() {
        loaded(6, "Sc00o0100d9d9d9d9d9o0000m000e000100p010100")
                .stateLike(new Run("left out").call("come", 0, 0).call("days", 36));
        loaded(1, "S" + "c12".repeat(13)).asked(12, "about", 1).asked(12, "family", 1, 0);
        loaded(3, "So0000p000001e000000c00").stateLike(new Run("come").call("come", 0, 0));
        loaded(1, "Sd9d9d9d9d4d1").asked(40, "about", 0);
        loaded(2, "Sd9d9d9d9d5m393d1m363").asked(37, "about", 0).asked(3, "day", 39, 0).asked(0, "day", 36, 0);
        loaded(0, "Sc00e003939e000000").asked(0, "child", 0, 3).asked(0, "child", 0, 4);
        loaded(1, "Sc00e003939e003900").asked(39, "child", 0, 3).asked(39, "child", 0, 4);
    }

    private static void promise5NotATerm() {
        for (String text : new String[] {"", "Sc", "x", "Sc00x", "Sc00c5", "S" + "h0".repeat(59) + "d"}) {
            Run run = new Run("promise 5, " + text);
            run.due(0, "come", 1, 1).due(0, "save", 1).due(30, "pay", 0, 30).due(1, "order", 0, 2, true);
            run.text(text).refused(STATE, "load").due(2, "undo").due(0, "restore", 1);
        }
    }
}
