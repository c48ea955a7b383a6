/** Promises 28 and 29: scripts and simulations. Each is asked so that it must change nothing. */
public final class ScriptsTest {
    private static final int NONE = Run.NONE;
    private static final int LOWEST = Integer.MIN_VALUE;
    private static final int HIGHEST = Integer.MAX_VALUE;
    private static final Class<?> ARGUMENT = Run.ARGUMENT;

    private ScriptsTest() {
    }

    public static void main(String[] args) {
        promise28Order();
        promise28PayAndEntitle();
        promise28ShareAndWriteOff();
        promise28Days();
        promise28Meal();
        promise28DebtAndServed();
        promise28Sequences();
        promise28WrongInputs();
        promise29Simulate();
        promise29OneTurn();
        promise29TwoTurns();
        promise29WrongInputs();
        Run.end();
    }

    /**
     * Day 3, the price is 300, the limit 0. Child 0 (family 0) was charged 250 on day 0 and owes it; child 1
     * (family 1, no meat) was unsuited on day 0 and free on day 1; child 2 (family 0) was refused on day 2,
     * has 250, and has ordered for day 5.
     */
    private static Run school(String title) {
        Run run = new Run(title);
        run.due(0, "come", 0, 0).due(1, "come", 1, 1).due(2, "come", 0, 0).due(250, "pay", 2, 250);
        run.due(1, "order", 0, 0, true).due(2, "order", 1, 0, true).due(0, "menu", 0, 1).due(1, "order", 1, 1, true);
        run.due(0, "entitle", 1, 1, 1).due(1, "days", 1).due(1, "days", 1).due(500, "set", 1, 0);
        run.due(1, "order", 2, 2, true).due(250, "set", 0, 300).due(0, "days", 1).due(1, "order", 2, 5, true);
        return run;
    }

    private static void succeed(Run run, int n, long... scripts) {
        fail(run, NONE, n, scripts);
    }

    private static void fail(Run run, int index, int n, long... scripts) {
        for (long script : scripts) {
            run.asked(index, "runScript", n, script);
        }
    }

    private static void promise28Order() {
        Run run = school("promise 28, order");
        succeed(run, 1, 100031, 100030, 102391, 101391, 102050, 102051);
        fail(run, 0, 1, 100021, 100020, 103051, 112051, 199051, 100401, 100991, 100052, 100059);
        succeed(run, 2, 100051700051L, 102050702050L, 102051702051L, 100050700050L);
        fail(run, 1, 2, 100051700050L, 102050702051L);
    }

    private static void promise28PayAndEntitle() {
        Run run = school("promise 28, pay and entitle");
        succeed(run, 1, 200001, 200999, 202500);
        fail(run, 0, 1, 200000, 203001, 212100, 299100);
        succeed(run, 2, 200240800010L, 200250800000L, 200249800010L);
        fail(run, 1, 2, 200240800000L, 200249800000L);
        succeed(run, 1, 300000, 300390, 302000);
        fail(run, 0, 1, 300400, 300990, 303000, 312000, 300391, 300009);
        // A charged meal becomes free and its debt goes; a free one that is not entitled any more is charged.
        succeed(run, 3, 300000700003800000L, 301390701013810000L, 301000701012810300L);
        fail(run, 2, 3, 301000701012810290L, 301390701013800000L);
    }

    private static void promise28ShareAndWriteOff() {
        Run run = school("promise 28, share and write off");
        succeed(run, 1, 400000, 400001, 440001);
        fail(run, 0, 1, 450000, 490001, 400002, 400009, 401000, 400100, 400010, 400011, 409991);
        succeed(run, 1, 500000);
        fail(run, 0, 1, 510000, 540000, 550000, 590000, 500001, 500010, 500100, 501000);
        succeed(run, 2, 500000800000L);
        fail(run, 1, 2, 500000500000L);
        run.due(300, "pay", 2, 50).due(1, "order", 0, 3, true);
        succeed(run, 3, 400001600001700032L, 400000600001700034L);
        fail(run, 2, 3, 400000600001700032L, 400001600001700034L);
        run.due(50, "share", 0, true);
        succeed(run, 3, 400001600001700032L, 400000600001700034L);
    }

    private static void promise28Days() {
        Run run = school("promise 28, days");
        succeed(run, 1, 600001, 600037);
        fail(run, 0, 1, 600000, 600038, 600040, 600041, 600099, 600101, 601001, 610001, 690001);
        succeed(run, 2, 600036600001L, 600003702054L, 600002702051L);
        fail(run, 1, 2, 600037600001L, 600003702051L, 600003102050L);
        Run first = new Run("promise 28, all days");
        succeed(first, 1, 600040);
        fail(first, 0, 1, 600041, 600000);
    }

    private static void promise28Meal() {
        Run run = school("promise 28, meal");
        succeed(run, 1, 700002, 701005, 701013, 702024, 702051, 700390, 702000);
        fail(run, 0, 1, 700003, 700000, 700001, 701004, 701006, 700009, 702023, 702050, 700391);
        fail(run, 0, 1, 703000, 711000, 712000, 799000, 700400, 700990);
    }

    private static void promise28DebtAndServed() {
        Run run = school("promise 28, debt and served");
        succeed(run, 1, 800250, 800260, 809990, 810000, 820000, 840000);
        fail(run, 0, 1, 800240, 800000, 850000, 859990, 890000, 800251, 809999, 810001);
        succeed(run, 1, 900000, 900001, 900002);
        fail(run, 0, 1, 900003, 900099, 900100, 900102, 901000, 901002, 910000, 990002);
        run.due(-249, "pay", 0, 1);
        succeed(run, 1, 800250);
        fail(run, 0, 1, 800240);
    }

    private static void promise28Sequences() {
        Run run = school("promise 28, sequences");
        fail(run, 0, 1, 0, 1, 12345, 99999, 31, 999999);
        fail(run, 0, 2, 0, 100031, 900000, 31900000L, 900003900003L, 999999999999L);
        fail(run, 0, 3, 0, 900000, 900000900000L, 900003900000900000L, 999999999999999999L);
        fail(run, 1, 2, 900000000000L, 900000900003L);
        fail(run, 1, 3, 900000900003900003L, 900000000000900000L);
        fail(run, 2, 3, 900000900000900003L, 900000900000000000L, 900002900001099999L);
        succeed(run, 2, 900002900000L);
        succeed(run, 3, 900000900001900002L, 102050702050102051L, 500000800000400000L);
        // What came before the command that fails is not kept either.
        fail(run, 2, 3, 200999600005000000L, 500000100391000000L);
    }

    private static void promise28WrongInputs() {
        Run run = school("promise 28, wrong");
        for (int n : new int[] {0, 4, -1, LOWEST, HIGHEST}) {
            run.refused(ARGUMENT, "runScript", n, 0).refused(ARGUMENT, "runScript", n, 900000);
            run.refused(ARGUMENT, "runScript", n, -1).refused(ARGUMENT, "runScript", n, Long.MAX_VALUE);
        }
        for (int n = 1; n <= 3; n++) {
            for (long script : new long[] {-1, -900000, Long.MIN_VALUE, Long.MAX_VALUE, 1000000000000000000L}) {
                run.refused(ARGUMENT, "runScript", n, script);
            }
        }
        run.refused(ARGUMENT, "runScript", 1, 1000000).refused(ARGUMENT, "runScript", 1, 900000900000L);
        run.refused(ARGUMENT, "runScript", 2, 1000000000000L).refused(ARGUMENT, "runScript", 2, 900000900000900000L);
    }

    /** The same turns as calls of the methods, the ones that throw left out. */
    private static int byCalls(MealAccounts accounts, long seed, int m) {
        int served = accounts.about(3);
        int refused = accounts.about(6);
        long x = seed;
        for (int i = 0; i < m; i++) {
            x = x * 6364136223846793005L + 1442695040888963407L;
            try {
                turn(accounts, (int) (x >>> 33));
            } catch (RuntimeException e) {
                // left out
            }
        }
        return 1000 * (accounts.about(3) - served) + accounts.about(6) - refused;
    }

    private static void turn(MealAccounts accounts, int r) {
        int children = accounts.about(1);
        int c = r / 16 % (children == 0 ? 1 : children);
        int d = r / 256 % 40;
        switch (r % 16) {
            case 0 -> accounts.come(r / 16 % 5, r / 128 % 4);
            case 1, 2, 3, 4, 5, 6 -> accounts.order(c, d, true);
            case 7, 8 -> accounts.pay(c, 1 + r / 16384 % 999);
            case 9 -> accounts.entitle(c, d, 39);
            case 10 -> accounts.share(r / 16 % 5, true);
            case 11 -> accounts.menu(d, r / 16384 % 4);
            case 12, 13, 14 -> accounts.days(1);
            default -> accounts.writeOff(r / 16 % 5);
        }
    }

    private static Run[] states() {
        Run late = school("promise 29, late").due(0, "days", 34);
        Run over = school("promise 29, over").due(0, "days", 37);
        Run full = new Run("promise 29, full");
        for (int c = 0; c < 12; c++) {
            full.due(c, "come", c / 3, c % 4);
        }
        return new Run[] {new Run("promise 29, empty"), school("promise 29"), late, over, ordered(), full};
    }

    private static Run ordered() {
        Run run = new Run("promise 29, ordered");
        for (int c = 0; c < 12; c++) {
            run.due(c, "come", c / 3, c % 4);
            for (int d = 0; d < 10; d++) {
                run.due(c + 1, "order", c, d, true);
            }
        }
        return run.due(0, "share", 1, true).due(500, "pay", 4, 500);
    }

    private static void promise29Simulate() {
        int[] turns = {1, 2, 7, 30, 99};
        long[] seeds = {Long.MIN_VALUE, Long.MAX_VALUE, 123456789L, -987654321L};
        for (Run run : states()) {
            for (int m : turns) {
                for (long seed = -2; seed <= 20; seed++) {
                    run.due(byCalls(run.again(), seed, m), "simulate", seed, m);
                }
                for (long seed : seeds) {
                    run.asked(byCalls(run.again(), seed, m), "simulate", seed, m);
                }
            }
        }
    }

    /** The seed whose first turn has this r: the multiplier is odd, so it can be taken back. */
    private static long seedOf(long r) {
        long inverse = 1;
        for (int i = 0; i < 6; i++) {
            inverse *= 2 - 6364136223846793005L * inverse;
        }
        return ((r << 33) - 1442695040888963407L) * inverse;
    }

    private static void promise29OneTurn() {
        Run run = school("promise 29, one turn").due(1, "order", 0, 3, true).due(300, "pay", 1, 300);
        run.due(2, "order", 1, 3, true);
        for (int kind = 0; kind < 16; kind++) {
            int due = kind >= 12 && kind <= 14 ? 1001 : 0;
            run.asked(due, "simulate", seedOf(kind), 1).asked(due, "simulate", seedOf(kind + 16 * 77777777L), 1);
        }
    }

    private static int r(long seed, int turn) {
        long x = seed;
        for (int i = 0; i <= turn; i++) {
            x = x * 6364136223846793005L + 1442695040888963407L;
        }
        return (int) (x >>> 33);
    }

    /** A payment and then a day, with the very price that this payment can meet, and one more. */
    private static void promise29TwoTurns() {
        int[] tested = new int[2];
        for (long seed = 0; seed < 3000 && (tested[0] < 3 || tested[1] < 3); seed++) {
            int kind = r(seed, 0) % 16 - 7;
            int amount = 1 + r(seed, 0) / 16384 % 999;
            boolean isDayNext = r(seed, 1) % 16 >= 12 && r(seed, 1) % 16 <= 14;
            if ((kind == 0 || kind == 1) && isDayNext && tested[kind] < 3 && amount < 999) {
                tested[kind]++;
                Run run = new Run("promise 29, two turns, seed " + seed);
                run.due(0, "come", 0, 0).due(500, "set", 1, 0).due(1, "order", 0, 0, true).due(250, "set", 0, amount);
                run.asked(1000, "simulate", seed, 2).due(amount, "set", 0, amount + 1).asked(1, "simulate", seed, 2);
            }
        }
        if (tested[0] < 3 || tested[1] < 3) {
            throw new AssertionError("too few such seeds were found");
        }
    }

    private static void promise29WrongInputs() {
        Run run = school("promise 29, wrong");
        for (int m : new int[] {0, -1, 100, LOWEST, HIGHEST}) {
            run.refused(ARGUMENT, "simulate", 0, m).refused(ARGUMENT, "simulate", Long.MIN_VALUE, m);
        }
    }
}
