/** The boundary cases of promises 28 and 29, scripts and simulations. */
final class ScriptBoundaries extends Boundaries {
    private ScriptBoundaries() {
    }

    static void testAll() {
        onACopy();
        oneToThreeCommands();
        highestGroupFirst();
        orders();
        payments();
        entitlements();
        sharing();
        writingOff();
        days();
        meals();
        debts();
        served();
        whatTheMethodsRefuse();
        whatDoesNotExist();
        otherGroups();
        decimalNumbers();
        digitsOfAScript();
        firstThatFails();
        scriptOutOfRange();
        simulatedOnACopy();
        turns();
        anySeed();
        overflow();
        childAndDayOfATurn();
        turnOfCome();
        turnOfOrder();
        turnOfPay();
        turnOfEntitle();
        turnOfShare();
        turnOfMenu();
        turnOfDays();
        turnOfWriteOff();
        leftOutTurns();
        servedAndRefused();
        turnsOutOfRange();
    }

    private static void succeed(Run run, int n, long... scripts) {
        fail(run, NONE, n, scripts);
    }

    private static void fail(Run run, int index, int n, long... scripts) {
        for (long script : scripts) {
            run.asked(index, "runScript", n, script);
        }
    }

    // Promise 28

    private static void onACopy() {
        Run run = children(promise(28, "Runs a script on a copy of the state."), 0, 0);
        orders(run, 0, 0, 1, 2).due(2, "days", 2).due(0, "entitle", 1, 0, 0);
        succeed(run, 3, 600038900002700024L, 300390101391400001L, 600038900002700024L);
        // A script that is done again finds what it found before, also if it came to its end or failed.
        fail(run, 0, 1, 202001);
        succeed(run, 2, 600038700024L);
        fail(run, 1, 2, 600038600001L);
        succeed(run, 2, 600038700024L);
    }

    private static void oneToThreeCommands() {
        Run run = promise(28, "A script has 1 to 3 commands;").asked(NONE, "runScript", 1, 900000);
        succeed(run, 2, 900000900000L);
        succeed(run, 3, 900000900000900000L);
        run.refused(ARGUMENT, "runScript", 0, 900000).refused(ARGUMENT, "runScript", 4, 900000900000900000L);
        Run number = promise(28, "n: number of commands, 1 to 3");
        succeed(number, 1, 600040);
        fail(number, 0, 2, 600040);
        fail(number, 0, 3, 600040600001L);
        number.refusedEach(ARGUMENT, values(0, 4, -1, LOWEST, HIGHEST), "runScript", EACH, 0);
    }

    private static void highestGroupFirst() {
        String sentence = "each is a group of six decimal digits d1 to d6, and the first command is the highest group of the number"
                + " (with zeros before it, if it has fewer digits).";
        Run run = children(promise(28, sentence), 0).due(1, "order", 0, 0, true);
        succeed(run, 2, 700001600001L, 600001700002L);
        fail(run, 1, 2, 600001700001L);
        fail(run, 0, 2, 700002600001L);
        succeed(run, 3, 700001600001700002L, 600001700002900001L);
        fail(run, 2, 3, 700001600001700001L, 600001700002900002L);
        fail(run, 1, 3, 700001700002600001L);
        fail(run, 0, 3, 700002700001600001L);
        // Zeros before it are a first group that fails, or a group of which only the first digits are missing.
        fail(run, 0, 1, 0, 1, 99999);
        fail(run, 0, 2, 0, 900000, 99999900000L);
        fail(run, 0, 3, 0, 900000, 900000900000L, 99999900000900000L);
    }

    private static void orders() {
        Run run = children(promise(28, "1 c c d d b: order(cc, dd, b is 1) (b is 0 or 1)."), 0, 0, 0, 0, 0, 0, 0, 0, 0, 0, 0, 0);
        run.due(0, "days", 5).due(1, "order", 0, 39, true);
        succeed(run, 1, 100050, 100051, 111390, 111391, 109100);
        fail(run, 0, 1, 100040, 100041, 100000, 112050, 100400, 111401, 199991, 100052, 100053, 100059);
        succeed(run, 2, 111051711051L, 111050711050L, 100390700390L, 100391700391L, 100051711050L);
        fail(run, 1, 2, 111051711050L, 100390700391L, 100391700390L);
        succeed(run, 3, 100051100050700050L, 100390100391700391L);
    }

    private static void payments() {
        Run run = children(promise(28, "2 c c x y z: pay(cc, xyz)."), 0, 1).due(1, "order", 0, 0, true).due(2, "order", 1, 0, true);
        run.due(2, "days", 1).due(250, "set", 0, 999).due(500, "set", 1, 0);
        succeed(run, 1, 200001, 200999, 201010);
        fail(run, 0, 1, 200000, 202001, 212999, 299001);
        // The debt is 250; a balance of 999 is enough for a meal.
        succeed(run, 2, 200250800000L, 200249800010L, 201240810010L);
        fail(run, 1, 2, 200249800000L, 200239800010L);
        run.due(1, "order", 0, 1, true).due(0, "pay", 0, 250);
        succeed(run, 3, 200999600001700012L, 200998600001700014L);
    }

    private static void entitlements() {
        Run run = orders(children(promise(28, "3 c c d d 0: entitle(cc, 0, dd)."), 0, 1), 0, 0, 5).due(1, "order", 1, 39, true);
        run.due(2, "days", 6);
        succeed(run, 1, 300000, 300390, 301050);
        fail(run, 0, 1, 300400, 300990, 302000, 312390, 300001, 300391);
        succeed(run, 3, 300000700003700052L, 300040700003700052L, 300050700003700053L, 300390700003700053L);
        run.due(500, "set", 1, 0);
        succeed(run, 3, 301390600034701393L, 301380600034701394L);
        // It is paid back to the sibling that paid.
        Run paid = children(run.another(), 0, 0).due(500, "set", 1, 0).due(0, "share", 0, true).due(250, "pay", 1, 250);
        orders(paid, 0, 0).due(1, "days", 1).due(0, "share", 0, false).due(1, "order", 1, 1, true);
        succeed(paid, 3, 300000600001701012L, 600001700002701014L);
        // From day 0 on, whatever it was before.
        run.due(250, "entitle", 0, 5, 39);
        succeed(run, 3, 300040700003700052L, 300000700003700052L);
    }

    private static void sharing() {
        Run run = promise(28, "4 f 0 0 0 b: share(f, b is 1).");
        succeed(run, 1, 400000, 400001, 440000, 440001);
        fail(run, 0, 1, 450000, 490001, 400002, 400009, 400010, 400100, 401000, 441111);
        children(run, 4, 4).due(500, "set", 1, 0).due(250, "pay", 1, 250).due(1, "order", 0, 0, true);
        succeed(run, 3, 440001600001700002L, 440000600001700004L, 400001600001700004L);
        run.due(250, "share", 4, true);
        succeed(run, 3, 440001600001700002L, 440000600001700004L, 400000600001700002L);
    }

    private static void writingOff() {
        Run run = promise(28, "5 f 0 0 0 0: writeOff(f).");
        fail(run, 0, 1, 500000, 540000, 550000, 590000);
        orders(orders(children(run, 0, 4), 0, 0), 1, 0).due(2, "days", 1);
        succeed(run, 1, 500000, 540000);
        fail(run, 0, 1, 510000, 530000, 550000, 500001, 500010, 500100, 501000, 541000);
        succeed(run, 2, 500000800000L, 540000800250L, 540000840000L);
        fail(run, 1, 2, 500000500000L, 540000800240L, 500000840000L);
    }

    private static void days() {
        Run run = children(promise(28, "6 0 0 0 n n: days(nn)."), 0).due(1, "order", 0, 39, true);
        succeed(run, 1, 600001, 600009, 600010, 600040);
        fail(run, 0, 1, 600000, 600041, 600099, 600101, 601001, 610001, 690040);
        succeed(run, 2, 600039600001L, 600001600039L, 600039700391L, 600040700392L);
        fail(run, 1, 2, 600040600001L, 600001600040L, 600039700392L, 600040100391L);
        run.due(0, "days", 39);
        succeed(run, 1, 600001);
        fail(run, 0, 1, 600002, 600040, 600000);
        run.due(1, "days", 1);
        fail(run, 0, 1, 600001, 600000, 600040);
    }

    /** The meals of day 0 are 0 to 5, child by child, but for the one that is ordered: it is of day 39. */
    private static Run sixKinds(Run run) {
        children(run, 0, 0, 0, 1, 2).due(5, "come", 3, 1).due(500, "set", 1, 0).due(250, "pay", 2, 250);
        run.due(0, "entitle", 3, 0, 0).due(0, "menu", 0, 1).due(1, "order", 1, 39, true);
        for (int c = 2; c <= 5; c++) {
            run.due(c - 1, "order", c, 0, true);
        }
        return run.due(2, "days", 1);
    }

    private static void meals() {
        Run run = sixKinds(promise(28, "7 c c d d k: succeeds if the meal of the child cc on the day dd is as meal(cc, dd, 0) tells, k."));
        for (int k = 0; k <= 9; k++) {
            for (int c = 0; c <= 5; c++) {
                run.asked(c == k ? NONE : 0, "runScript", 1, 700000 + 1000 * c + (c == 1 ? 390 : 0) + k);
            }
        }
        fail(run, 0, 1, 706000, 711000, 712000, 799000, 700400, 700990);
    }

    private static void debts() {
        Run run = promise(28, "8 f x y z 0: succeeds if the debt of the family f is at most 10 * xyz.");
        succeed(run, 1, 800000, 840000, 809990, 849990);
        fail(run, 0, 1, 850000, 890000, 859990, 800001, 809991, 840009);
        orders(children(run, 4), 0, 0).due(1, "days", 1);
        succeed(run, 1, 840250, 840260, 849990, 800000);
        fail(run, 0, 1, 840240, 840000, 840020);
        run.due(-249, "pay", 0, 1);
        succeed(run, 1, 840250);
        fail(run, 0, 1, 840240);
        run.due(-240, "pay", 0, 9);
        succeed(run, 1, 840240);
        fail(run, 0, 1, 840230);
        // A debt of exactly 9990, and of more.
        Run great = ordersFromTo(children(run.another(), 0), 0, 0, 10).due(250, "set", 0, 999).due(500, "set", 1, 9999);
        great.due(10, "days", 10);
        succeed(great, 1, 809990);
        fail(great, 0, 1, 809980);
        great.due(999, "set", 0, 1).due(1, "days", 1);
        fail(great, 0, 1, 809990);
    }

    private static void served() {
        Run run = promise(28, "9 0 0 0 n n: succeeds if at least nn meals were served so far.");
        succeed(run, 1, 900000);
        fail(run, 0, 1, 900001, 900099, 900100, 901000, 910000, 990000);
        orders(orders(children(run, 0, 1), 0, 0, 1, 2), 1, 0).due(0, "entitle", 1, 0, 0).due(3, "days", 3);
        succeed(run, 1, 900000, 900001, 900003);
        fail(run, 0, 1, 900004, 900103, 901003, 910003, 900099);
        Run many = children(run.another(), 0, 0, 0).due(250, "set", 0, 1);
        for (int c = 0; c < 3; c++) {
            ordersFromTo(many, c, 0, 32);
        }
        many.due(96, "days", 32);
        succeed(many, 1, 900096);
        fail(many, 0, 1, 900097, 900099);
        many.due(3, "days", 1);
        succeed(many, 1, 900099);
    }

    private static void whatTheMethodsRefuse() {
        Run run = orders(children(promise(28, "The commands 1 to 6 fail if the method would throw an exception;"), 0), 0, 0);
        run.due(1, "days", 1);
        fail(run, 0, 1, 100000, 100001, 200000, 510000, 600000, 600040, 300400);
        succeed(run, 1, 100010, 200001, 500000, 600001, 600039, 300390, 400001);
        fail(run, 1, 2, 500000500000L, 600039600001L, 600001100011L);
        run.due(0, "days", 39);
        fail(run, 0, 1, 100391, 600001);
    }

    private static void whatDoesNotExist() {
        Run run = promise(28, "commands with children, families or days that do not exist fail,");
        fail(run, 0, 1, 100001, 200001, 300000, 700000, 700001);
        children(run, 0);
        succeed(run, 1, 100001, 200001, 300000, 700000, 440001, 840000, 700390, 100391, 300390);
        fail(run, 0, 1, 101001, 201001, 301000, 701000, 711000, 799000, 450001, 550000, 850000, 890000, 700400, 100401, 300400);
        for (int c = 1; c < 12; c++) {
            run.due(c, "come", 0, 0);
        }
        succeed(run, 1, 111001, 211001, 311000, 711000, 711390);
        fail(run, 0, 1, 112001, 212001, 312000, 712000, 711400, 750000, 799990);
    }

    private static void otherGroups() {
        Run run = promise(28, "and so does any other group (also one with another digit where a 0 is written, or another b).");
        orders(children(run, 0), 0, 0).due(1, "days", 1);
        fail(run, 0, 1, 0, 1, 12345, 99999, 50000, 90000);
        for (int digit = 1; digit <= 9; digit++) {
            fail(run, 0, 1, 300390 + digit, 500000 + digit, 500000 + 10 * digit, 500000 + 100 * digit, 500000 + 1000 * digit);
            fail(run, 0, 1, 400000 + 10 * digit, 400001 + 100 * digit, 400000 + 1000 * digit, 600001 + 100 * digit);
            fail(run, 0, 1, 600001 + 1000 * digit, 600001 + 10000 * digit, 809990 + digit, 900000 + 100 * digit);
            fail(run, 0, 1, 900000 + 1000 * digit, 900000 + 10000 * digit);
            if (digit >= 2) {
                fail(run, 0, 1, 100010 + digit, 400000 + digit);
            }
        }
        succeed(run, 1, 300390, 500000, 400000, 400001, 600001, 809990, 900000, 100010, 100011);
    }

    private static void decimalNumbers() {
        Run run = children(promise(28, "cc, dd, nn and xyz are decimal numbers."), 0, 0, 0, 0, 0, 0, 0, 0, 0, 0, 0, 0);
        run.due(1, "order", 10, 12, true).due(1, "order", 1, 21, true);
        succeed(run, 1, 710121, 701211, 701120, 710210);
        fail(run, 0, 1, 710120, 701121, 710211);
        succeed(run, 3, 600012600001710122L, 210123600021710122L);
        fail(run, 2, 3, 600012710121710122L);
        orders(run, 5, 0, 1).due(2, "days", 2);
        succeed(run, 2, 205123800380L, 205321800180L);
        fail(run, 1, 2, 205123800370L, 205321800170L);
    }

    private static void digitsOfAScript() {
        Run run = promise(28, "script: the commands, a number of at most 6 * n digits (0 or more)");
        fail(run, 0, 1, 0, 999999);
        fail(run, 0, 2, 0, 1000000, 999999999999L);
        fail(run, 0, 3, 0, 1000000000000L, 999999999999999999L);
        run.refused(ARGUMENT, "runScript", 1, 1000000).refused(ARGUMENT, "runScript", 2, 1000000000000L);
        run.refused(ARGUMENT, "runScript", 3, 1000000000000000000L).refused(ARGUMENT, "runScript", 1, -1);
    }

    private static void firstThatFails() {
        String sentence = "Returns the index, from 0, of the first command that fails; NONE if all succeed.";
        Run run = promise(28, sentence);
        succeed(run, 1, 900000);
        succeed(run, 2, 900000900000L);
        succeed(run, 3, 900000900000900000L);
        fail(run, 0, 1, 900001);
        fail(run, 0, 2, 900001900000L, 900001900001L);
        fail(run, 1, 2, 900000900001L);
        fail(run, 0, 3, 900001900000900000L, 900001900001900001L, 900001900000900001L);
        fail(run, 1, 3, 900000900001900000L, 900000900001900001L);
        fail(run, 2, 3, 900000900000900001L);
    }

    private static void scriptOutOfRange() {
        Run run = promise(28, "Throws IllegalArgumentException if n is out of range, or if script is negative or has more than 6 * n"
                + " digits");
        for (long script : new long[] {0, 900000, -1, Long.MIN_VALUE, Long.MAX_VALUE}) {
            for (int n : values(0, 4, -1, LOWEST, HIGHEST)) {
                run.refused(ARGUMENT, "runScript", n, script);
            }
        }
        long first = 1;
        for (int n = 1; n <= 3; n++) {
            first *= 1000000;
            run.refused(ARGUMENT, "runScript", n, first).refused(ARGUMENT, "runScript", n, Long.MAX_VALUE);
            run.refused(ARGUMENT, "runScript", n, -1).refused(ARGUMENT, "runScript", n, Long.MIN_VALUE);
            run.refused(ARGUMENT, "runScript", n, -900000).refused(ARGUMENT, "runScript", n, -first);
            run.asked(0, "runScript", n, first - 1).asked(0, "runScript", n, 0);
        }
    }

    // Promise 29

    private static final long FACTOR = 6364136223846793005L;
    private static final long STEP = 1442695040888963407L;
    private static final Turn DAY = turn(12, 14);

    private static long next(long x) {
        return x * FACTOR + STEP;
    }

    private static int r(long x) {
        return (int) (x >>> 33);
    }

    /** The x before this one: the factor is odd, so it can be taken back. */
    private static long before(long x) {
        long inverse = 1;
        for (int i = 0; i < 6; i++) {
            inverse *= 2 - FACTOR * inverse;
        }
        return (x - STEP) * inverse;
    }

    /** What the r of a turn must be: r % 16 in a range, and for each three of the parts r / first % second == third. */
    private record Turn(int lowest, int highest, int[] parts) {
        boolean is(int r) {
            boolean is = r % 16 >= lowest && r % 16 <= highest;
            for (int i = 0; i < parts.length; i += 3) {
                is &= r / parts[i] % parts[i + 1] == parts[i + 2];
            }
            return is;
        }

        int smallest() {
            int r = lowest;
            while (!is(r)) {
                r += r % 16 < highest ? 1 : 16 - highest + lowest;
            }
            return r;
        }

        int greatest() {
            int r = Integer.MAX_VALUE - 15 + highest;
            while (!is(r)) {
                r -= r % 16 > lowest ? 1 : 16 - highest + lowest;
            }
            return r;
        }
    }

    private static Turn turn(int lowest, int highest, int... parts) {
        return new Turn(lowest, highest, parts);
    }

    private static Turn order(int children, int c, int d) {
        return turn(1, 6, 16, children, c, 256, 40, d);
    }

    /** A seed whose first turn has this r, and whose later ones are such. */
    private static long seed(int first, Turn... later) {
        for (long low = 0; low < 1L << 33; low++) {
            long x = ((long) first << 33) + low;
            long y = x;
            int fitting = 0;
            while (fitting < later.length && later[fitting].is(r(next(y)))) {
                y = next(y);
                fitting++;
            }
            if (fitting == later.length) {
                return before(x);
            }
        }
        throw new AssertionError("no such seed was found");
    }

    /** The answer to these turns, the first of them with the smallest and with the greatest r that is such. */
    private static void simulated(Run run, int due, Turn first, Turn... later) {
        run.asked(due, "simulate", seed(first.smallest(), later), later.length + 1);
        run.asked(due, "simulate", seed(first.greatest(), later), later.length + 1);
    }

    /** That it is simulated as the model does it. */
    private static void asModel(Run run, int m, long... seeds) {
        for (long seed : seeds) {
            run.asked(run.byModel("simulate", seed, m), "simulate", seed, m);
        }
    }

    /** A child of family 0 that ordered for the first two days and has no money. */
    private static Run poor(Run run) {
        return orders(children(run, 0).due(500, "set", 1, 0), 0, 0, 1);
    }

    private static void simulatedOnACopy() {
        Run run = orders(children(promise(29, "Simulates m turns on a copy of the state."), 0, 0), 0, 0, 1, 2).due(1, "days", 1);
        for (int m : values(1, 2, 50, 99, 1, 99)) {
            asModel(run, m, 1, 2, 3, 1);
        }
    }

    private static void turns() {
        Run run = poor(promise(29, "m: number of turns, 1 to 99")).asked(1, "simulate", seed(12), 1);
        run.asked(0, "simulate", seed(0, DAY), 1).asked(1, "simulate", seed(0, DAY), 2).asked(1, "simulate", seed(0, DAY, DAY), 2);
        run.asked(2, "simulate", seed(0, DAY, DAY), 3).refused(ARGUMENT, "simulate", 1, 0).refused(ARGUMENT, "simulate", 1, 100);
        // The 99th turn is done, too: there are seeds for which it makes another answer.
        int differing = 0;
        for (long seed = 0; seed < 2000 && differing < 4; seed++) {
            if (run.byModel("simulate", seed, 98) != run.byModel("simulate", seed, 99)) {
                asModel(run, 98, seed);
                asModel(run, 99, seed);
                differing++;
            }
        }
        if (differing < 4) {
            Run.fault("too few such seeds were found");
        }
    }

    private static void anySeed() {
        Document.quote("Promise 29", "A long x starts as the seed.");
        long[] seeds = {0, 1, -1, Long.MIN_VALUE, Long.MAX_VALUE, Long.MIN_VALUE + 1, Long.MAX_VALUE - 1, 1L << 32, -1L << 32,
            before(0), before(-1), before(Long.MIN_VALUE), before(Long.MAX_VALUE)};
        asModel(promise(29, "seed: any long"), 99, seeds);
        asModel(poor(promise(29, "seed: any long")), 99, seeds);
        Run many = promise(29, "seed: any long");
        for (int c = 0; c < 12; c++) {
            ordersFromTo(many.due(c, "come", c / 3, c % 4), c, 0, 8);
        }
        asModel(many.due(0, "share", 1, true).due(700, "pay", 4, 700), 99, seeds);
        asModel(many, 40, seeds);
    }

    private static void overflow() {
        Run run = poor(promise(29, "Each turn first replaces x by x * 6364136223846793005L + 1442695040888963407L (with long overflow),"
                + " and r = (int) (x >>> 33) is computed."));
        run.asked(1, "simulate", seed(12), 1).asked(1, "simulate", seed(Integer.MAX_VALUE - 1), 1);
        run.asked(1, "simulate", seed(0x4000000c), 1).asked(1, "simulate", seed(0x3ffffffe), 1);
        run.asked(0, "simulate", seed(Integer.MAX_VALUE), 1).asked(0, "simulate", seed(0), 1);
        // The 33 bits below r matter for the next turn alone.
        for (long low : new long[] {0, 1, (1L << 33) - 1}) {
            run.asked(1, "simulate", before((12L << 33) + low), 1).asked(0, "simulate", before((11L << 33) + low), 1);
            asModel(run, 2, before((12L << 33) + low), before((1L << 33) + low));
        }
    }

    private static void childAndDayOfATurn() {
        String sentence = "c is r / 16 % (the number of children, or 1 without any), d is r / 256 % 40.";
        for (int number : values(1, 2, 11, 12)) {
            for (int c : values(0, number / 2, number - 1)) {
                Run run = promise(29, sentence).due(500, "set", 1, 0);
                for (int i = 0; i < number; i++) {
                    run.due(i, "come", 0, 0);
                }
                run.due(250, "pay", c, 250);
                simulated(run, 1000, order(number, c, 0), DAY);
                if (number > 1) {
                    simulated(run, 1, order(number, (c + 1) % number, 0), DAY);
                }
            }
        }
        // The first day and the last one, and days that are not today.
        Run run = children(promise(29, sentence), 0);
        simulated(run, 1000, order(1, 0, 0), DAY);
        simulated(run, 0, order(1, 0, 1), DAY);
        simulated(run, 0, order(1, 0, 39), DAY);
        simulated(run.due(0, "days", 39), 1000, order(1, 0, 39), DAY);
        simulated(run, 0, order(1, 0, 38), DAY);
        simulated(run, 0, order(1, 0, 0), DAY);
        // Without any child nothing can be done for it; it can come in the turn before.
        Run none = promise(29, sentence);
        for (int kind = 1; kind <= 9; kind++) {
            simulated(none, 0, turn(kind, kind), DAY);
        }
        simulated(none, 1000, turn(0, 0), order(1, 0, 0), DAY);
        simulated(none, 0, order(1, 0, 0), turn(0, 0), DAY);
        for (long seed = 0; seed < 8; seed++) {
            asModel(none, 99, seed);
        }
    }

    private static void turnOfCome() {
        String sentence = "By r % 16: 0: come(r / 16 % 5, r / 128 % 4).";
        for (int menu = 0; menu <= 3; menu++) {
            Run run = promise(29, sentence).due(0, "menu", 0, menu);
            for (int diet = 0; diet <= 3; diet++) {
                simulated(run, (menu & diet) == 0 ? 1000 : 0, turn(0, 0, 128, 4, diet), order(1, 0, 0), DAY);
            }
        }
        for (int f = 0; f <= 4; f++) {
            Run run = children(promise(29, sentence), f).due(500, "set", 1, 0).due(9999, "pay", 0, 9999).due(9999, "share", f, true);
            for (int other = 0; other <= 4; other++) {
                simulated(run, other == f ? 1000 : 1, turn(0, 0, 16, 5, other, 128, 4, 0), order(2, 1, 0), DAY);
            }
        }
    }

    private static void turnOfOrder() {
        Run run = children(promise(29, "1 to 6: order(c, d, true)."), 0);
        for (int kind = 0; kind <= 15; kind++) {
            boolean isDay = kind >= 12 && kind <= 14;
            simulated(run, kind >= 1 && kind <= 6 ? 1000 : 0, turn(kind, kind, 256, 40, 0), isDay ? turn(0, 0) : DAY);
        }
        // What is ordered already stays ordered.
        run.due(1, "order", 0, 0, true);
        for (int kind = 1; kind <= 6; kind++) {
            simulated(run, 1000, turn(kind, kind, 256, 40, 0), DAY);
        }
        simulated(run, 1000, order(1, 0, 0), order(1, 0, 0), DAY);
    }

    private static void turnOfPay() {
        String sentence = "7 and 8: pay(c, 1 + r / 16384 % 999).";
        for (int kind = 7; kind <= 8; kind++) {
            for (int amount : values(1, 2, 250, 998, 999)) {
                Run run = poor(promise(29, sentence)).due(250, "set", 0, amount);
                Turn pays = turn(kind, kind, 16384, 999, amount - 1);
                simulated(run, 1000, pays, DAY);
                simulated(run, 1001, pays, DAY, DAY);
                if (amount < 999) {
                    simulated(run.due(amount, "set", 0, amount + 1), 1, pays, DAY);
                }
                // Another child than the one that is paid for.
                Run other = orders(children(promise(29, sentence), 0, 1), 1, 0).due(500, "set", 1, 0).due(250, "set", 0, amount);
                simulated(other, 1000, turn(kind, kind, 16384, 999, amount - 1, 16, 2, 1), DAY);
                simulated(other, 1, turn(kind, kind, 16384, 999, amount - 1, 16, 2, 0), DAY);
            }
        }
        Run six = poor(promise(29, sentence)).due(250, "set", 0, 1);
        simulated(six, 1, turn(6, 6), DAY);
        simulated(six, 1, turn(10, 10), DAY);
    }

    private static void turnOfEntitle() {
        String sentence = "9: entitle(c, d, 39).";
        Run run = poor(promise(29, sentence));
        simulated(run, 1000, turn(9, 9, 256, 40, 0), DAY);
        simulated(run, 2000, turn(9, 9, 256, 40, 0), DAY, DAY);
        simulated(run, 1001, turn(9, 9, 256, 40, 1), DAY, DAY);
        simulated(run, 2, turn(9, 9, 256, 40, 2), DAY, DAY);
        run.due(1, "order", 0, 39, true).due(0, "days", 39);
        for (int d : values(0, 1, 38, 39)) {
            simulated(run, 1000, turn(9, 9, 256, 40, d), DAY);
        }
        // What is paid back to child 0 serves its sibling.
        Run back = orders(children(promise(29, sentence), 0, 0), 0, 0).due(1, "days", 1).due(250, "pay", 0, 500).due(0, "pay", 0, -250);
        back.due(0, "share", 0, true).due(500, "set", 1, 0).due(1, "order", 1, 1, true);
        simulated(back, 1000, turn(9, 9, 16, 2, 0, 256, 40, 0), DAY);
        simulated(back, 1, turn(9, 9, 16, 2, 0, 256, 40, 1), DAY);
        simulated(back, 1000, turn(9, 9, 16, 2, 1, 256, 40, 1), DAY);
        simulated(back, 1, turn(9, 9, 16, 2, 1, 256, 40, 2), DAY);
        // It is paid back to the sibling that paid, which has then enough for its own meal.
        Run paid = children(promise(29, sentence), 0, 0).due(500, "set", 1, 0).due(0, "share", 0, true).due(250, "pay", 1, 250);
        paid.due(1, "order", 0, 0, true).due(1, "days", 1).due(0, "share", 0, false).due(1, "order", 1, 1, true);
        simulated(paid, 1000, turn(9, 9, 16, 2, 0, 256, 40, 0), DAY);
        simulated(paid, 1, turn(9, 9, 16, 2, 0, 256, 40, 1), DAY);
    }

    private static void turnOfShare() {
        for (int f = 0; f <= 4; f++) {
            Run run = children(promise(29, "10: share(r / 16 % 5, true)."), f, f).due(500, "set", 1, 0).due(250, "pay", 1, 250);
            run.due(1, "order", 0, 0, true);
            for (int other = 0; other <= 4; other++) {
                simulated(run, other == f ? 1000 : 1, turn(10, 10, 16, 5, other), DAY);
            }
            simulated(run.due(250, "share", f, true), 1000, turn(10, 10, 16, 5, f), DAY);
        }
    }

    private static void turnOfMenu() {
        for (int diet = 0; diet <= 3; diet++) {
            Run run = promise(29, "11: menu(d, r / 16384 % 4).").due(0, "come", 0, diet);
            orders(run, 0, 0, 39).due(0, "menu", 0, 3).due(0, "menu", 39, 3);
            for (int menu = 0; menu <= 3; menu++) {
                int due = (menu & diet) == 0 ? 1000 : 0;
                simulated(run, due, turn(11, 11, 256, 40, 0, 16384, 4, menu), DAY);
                simulated(run, diet == 0 ? 1000 : 0, turn(11, 11, 256, 40, 1, 16384, 4, menu), DAY);
            }
            run.due(diet == 0 ? 1 : 0, "days", 39);
            for (int menu = 0; menu <= 3; menu++) {
                simulated(run, (menu & diet) == 0 ? 1000 : 0, turn(11, 11, 256, 40, 39, 16384, 4, menu), DAY);
            }
        }
    }

    private static void turnOfDays() {
        Run run = ordersFromTo(children(promise(29, "12 to 14: days(1)."), 0), 0, 0, 39).due(250, "set", 0, 1);
        for (int kind = 0; kind <= 15; kind++) {
            simulated(run, kind >= 12 && kind <= 14 ? 1000 : 0, turn(kind, kind));
        }
        simulated(run, 3000, DAY, DAY, DAY);
        run.due(39, "days", 39);
        simulated(run, 1000, DAY, DAY, DAY);
    }

    private static void turnOfWriteOff() {
        for (int f = 0; f <= 4; f++) {
            Run run = orders(children(promise(29, "15: writeOff(r / 16 % 5)."), f), 0, 0, 1, 2).due(2, "days", 2);
            for (int other = 0; other <= 4; other++) {
                simulated(run, other == f ? 1000 : 1, turn(15, 15, 16, 5, other), DAY);
            }
        }
    }

    private static void leftOutTurns() {
        String sentence = "What would throw an exception is left out.";
        // A thirteenth child, and the number of children stays twelve.
        Run full = children(promise(29, sentence), 0, 0, 0, 0, 0, 0, 0, 0, 0, 0, 0, 0).due(500, "set", 1, 0).due(250, "pay", 11, 250);
        simulated(full, 1000, turn(0, 0), order(12, 11, 0), DAY);
        // An order for a day that has gone by, its menu, a debt that there is not.
        Run run = ordersFromTo(children(promise(29, sentence), 0), 0, 0, 3).due(500, "set", 1, 9999).due(1, "days", 1);
        simulated(run, 1000, order(1, 0, 0), DAY);
        simulated(run, 1000, turn(11, 11, 256, 40, 0), DAY);
        simulated(run, 1000, turn(15, 15, 16, 5, 3), DAY);
        // More days than are left.
        Run over = orders(children(promise(29, sentence), 0), 0, 39).due(0, "days", 38);
        simulated(over, 1000, DAY, DAY, DAY, DAY);
        simulated(over.due(1, "days", 2), 0, DAY, DAY);
        asModel(over, 99, 1, 2, 3, 4);
    }

    private static void servedAndRefused() {
        String sentence = "Returns 1000 * (the meals that are served in them) + (the meals that are refused in them).";
        // Two were served before, two refused, one unsuited; then one is charged, one free, one refused, one unsuited.
        Run run = children(promise(29, sentence), 0, 1, 2).due(3, "come", 3, 1).due(500, "set", 1, 0).due(500, "pay", 0, 500);
        for (int d = 0; d <= 1; d++) {
            for (int c = 0; c <= 3; c++) {
                run.due(c + 1, "order", c, d, true);
            }
            run.due(0, "menu", d, 1).due(0, "entitle", 1, 0, 39);
        }
        simulated(run, 2001, DAY);
        simulated(run, 4002, DAY, DAY);
        simulated(run.due(2, "days", 1), 2001, DAY);
        simulated(run.due(2, "days", 1), 0, DAY);
        // Twelve on each day.
        Run full = promise(29, sentence);
        for (int c = 0; c < 12; c++) {
            ordersFromTo(full.due(c, "come", 0, 0), c, 0, 37);
        }
        full.due(12000, "simulate", seed(12), 1).due(24000, "simulate", seed(12, DAY), 2);
        full.due(24012, "simulate", seed(12, DAY, DAY), 3).due(full.byModel("simulate", 5, 99), "simulate", 5, 99);
        full.due(500, "set", 1, 0).due(12, "simulate", seed(12), 1).due(24, "simulate", seed(12, DAY), 2);
        full.due(full.byModel("simulate", 5, 99), "simulate", 5, 99);
    }

    private static void turnsOutOfRange() {
        Run run = promise(29, "Throws IllegalArgumentException if m is out of range");
        for (long seed : new long[] {0, 1, -1, Long.MIN_VALUE, Long.MAX_VALUE}) {
            for (int m : values(0, -1, 100, LOWEST, HIGHEST)) {
                run.refused(ARGUMENT, "simulate", seed, m);
            }
        }
        run.asked(0, "simulate", 0, 1).due(run.byModel("simulate", 0, 99), "simulate", 0, 99);
    }
}
