import java.util.Arrays;

/**
 * Accounts of school meals: who ordered, who was served, who paid for it, and what would be.
 *
 * <p>Every action is tested first (a "fault" is looked for), then the state is remembered, and only
 * then it is changed: so a call that throws changes nothing, and scripts, simulations and texts can
 * leave out what would throw without throwing it.
 */
public final class MealAccounts {
    public static final int NONE = -1;

    private static final int FAMILIES = 5;
    private static final int MOST_CHILDREN = 12;
    private static final int DAYS = 40;
    private static final int HIGHEST_DIET = 3;
    private static final int HIGHEST_MENU = 3;

    private static final int FIRST_PRICE = 250;
    private static final int HIGHEST_PRICE = 999;
    private static final int FIRST_LIMIT = 500;
    private static final int HIGHEST_LIMIT = 9999;
    private static final int HIGHEST_AMOUNT = 9999;

    private static final int NOT_ORDERED = 0;
    private static final int ORDERED = 1;
    private static final int CHARGED = 2;
    private static final int FREE = 3;
    private static final int REFUSED = 4;
    private static final int UNSUITED = 5;

    private static final int FINE = 0;
    private static final int NO_SUCH = 1;
    private static final int BAD_ARGUMENT = 2;
    private static final int BAD_STATE = 3;

    private static final int LONGEST_TEXT = 120;
    private static final int HIGHEST_CHARACTER = 255;
    private static final int MOST_REMEMBERED = 14;
    private static final int SLOTS = 2;
    private static final int NEED_STEP = 100;
    private static final int HIGHEST_NEED = 20000;
    private static final int LONGEST_SCRIPT = 3;
    private static final int MOST_TURNS = 99;

    private final Text text = new Text();
    private final Ledger now = new Ledger();
    /** What "would be" is played on this one, so that no call needs an object of its own. */
    private final Ledger trial = new Ledger();
    private final History history = new History();
    private final Ledger[] slots = new Ledger[SLOTS];
    private final boolean[] isSaved = new boolean[SLOTS];

    public MealAccounts() {
        for (int i = 0; i < SLOTS; i++) {
            slots[i] = new Ledger();
        }
    }

    // ---- text

    public int append(int c) throws IllegalArgumentException, IllegalStateException {
        if (c < 0 || c > HIGHEST_CHARACTER) {
            throw new IllegalArgumentException("a character is 0 to 255");
        }
        if (text.length >= LONGEST_TEXT) {
            throw new IllegalStateException("the text is full");
        }
        return text.add((char) c);
    }

    public int clearText() {
        int previous = text.length;
        text.length = 0;
        return previous;
    }

    public int errorPosition() {
        return text.firstError();
    }

    public int load() throws IllegalStateException {
        if (text.firstError() != NONE) {
            throw new IllegalStateException("the text is not a term");
        }
        now.clear();
        history.clear();
        for (int i = 0; i < SLOTS; i++) {
            isSaved[i] = false;
        }
        int leftOut = 0;
        text.readStart();
        for (int i = 0; i < LONGEST_TEXT && !text.isAtEnd(); i++) {
            if (text.readCommand() && !Commands.performText(now, text)) {
                leftOut++;
            }
        }
        return leftOut;
    }

    // ---- what there is

    public int about(int what) throws IllegalArgumentException {
        switch (what) {
            case 0: return now.today;
            case 1: return now.children;
            case 2: return now.meals.countAll(ORDERED);
            case 3: return now.meals.countServed();
            case 4: return now.meals.countAll(CHARGED);
            case 5: return now.meals.countAll(FREE);
            case 6: return now.meals.countAll(REFUSED);
            case 7: return now.meals.countAll(UNSUITED);
            case 8: return now.paidIn;
            case 9: return now.meals.chargedInAll();
            case 10: return now.writtenOffInAll();
            case 11: return now.sumOfBalances();
            default: throw new IllegalArgumentException("what is 0 to 11");
        }
    }

    public int child(int c, int what) throws IndexOutOfBoundsException, IllegalArgumentException {
        requireChild(c);
        switch (what) {
            case 0: return now.familyOf[c];
            case 1: return now.dietOf[c];
            case 2: return now.balanceOf[c];
            case 3: return now.firstDayOf[c];
            case 4: return now.lastDayOf[c];
            case 5: return now.meals.countOf(c, CHARGED) + now.meals.countOf(c, FREE);
            case 6: return now.meals.countChargedToSiblings(c);
            case 7: return now.meals.chargedTo(c);
            case 8: return now.meals.countOf(c, REFUSED);
            default: throw new IllegalArgumentException("what is 0 to 8");
        }
    }

    public int family(int f, int what) throws IndexOutOfBoundsException, IllegalArgumentException {
        requireFamily(f);
        switch (what) {
            case 0: return now.childrenOf(f);
            case 1: return now.sharing[f];
            case 2: return now.sumOfBalancesOf(f);
            case 3: return now.debtOf(f);
            case 4: return now.writtenOffFor[f];
            default: throw new IllegalArgumentException("what is 0 to 4");
        }
    }

    public int day(int d, int what) throws IndexOutOfBoundsException, IllegalArgumentException {
        requireDay(d);
        switch (what) {
            case 0: return now.menuOn[d];
            case 1: return now.meals.countOrderedOn(d);
            case 2: return now.meals.countOn(d, CHARGED) + now.meals.countOn(d, FREE);
            case 3: return now.meals.chargedOn(d);
            default: throw new IllegalArgumentException("what is 0 to 3");
        }
    }

    public int meal(int c, int d, int what) throws IndexOutOfBoundsException, IllegalArgumentException {
        requireChild(c);
        requireDay(d);
        switch (what) {
            case 0: return now.meals.kindOf(c, d);
            case 1: return now.meals.chargeOf(c, d);
            case 2: return now.meals.payerOf(c, d);
            default: throw new IllegalArgumentException("what is 0 to 2");
        }
    }

    public int setting(int what) throws IllegalArgumentException {
        switch (what) {
            case 0: return now.price;
            case 1: return now.limit;
            default: throw new IllegalArgumentException("what is 0 or 1");
        }
    }

    // ---- actions

    public int come(int f, int diet)
            throws IndexOutOfBoundsException, IllegalArgumentException, IllegalStateException {
        beginAction(now.faultOfCome(f, diet));
        return now.addChild(f, diet);
    }

    public int menu(int d, int menu)
            throws IndexOutOfBoundsException, IllegalArgumentException, IllegalStateException {
        beginAction(now.faultOfMenu(d, menu));
        return now.changeMenu(d, menu);
    }

    public int order(int c, int d, boolean is) throws IndexOutOfBoundsException, IllegalStateException {
        beginAction(now.faultOfOrder(c, d));
        return now.changeOrder(c, d, is);
    }

    public int pay(int c, int amount)
            throws IndexOutOfBoundsException, IllegalArgumentException, IllegalStateException {
        beginAction(now.faultOfPay(c, amount));
        return now.payIn(c, amount);
    }

    public int move(int c, int other, int amount)
            throws IndexOutOfBoundsException, IllegalArgumentException, IllegalStateException {
        beginAction(now.faultOfMove(c, other, amount));
        return now.moveBetween(c, other, amount);
    }

    public int share(int f, boolean is) throws IndexOutOfBoundsException {
        beginAction(now.faultOfShare(f));
        return now.changeSharing(f, is);
    }

    public int entitle(int c, int from, int to) throws IndexOutOfBoundsException, IllegalArgumentException {
        beginAction(now.faultOfEntitle(c, from, to));
        return now.changeEntitlement(c, from, to);
    }

    public int writeOff(int f) throws IndexOutOfBoundsException, IllegalStateException {
        beginAction(now.faultOfWriteOff(f));
        return now.writeDebtOff(f);
    }

    public int days(int n) throws IllegalArgumentException, IllegalStateException {
        beginAction(now.faultOfDays(n));
        return now.passDays(n);
    }

    public int set(int what, int v) throws IllegalArgumentException {
        beginAction(faultOfSet(what, v));
        return now.changeSetting(what, v);
    }

    public int undo() throws IllegalStateException {
        if (history.count == 0) {
            throw new IllegalStateException("no state is remembered");
        }
        return history.takeBack(now);
    }

    // ---- what would be

    public int refusedOn(int c) throws IndexOutOfBoundsException {
        requireChild(c);
        trial.copyFrom(now);
        return trial.spendUntilRefused(trial.familyOf[c], c);
    }

    public int needs(int f) throws IndexOutOfBoundsException {
        requireFamily(f);
        int lowest = now.lowestChildOf(f);
        if (lowest == NONE) {
            return NONE;
        }
        trial.copyFrom(now);
        // Each amount is tried: a greater one can be worse, as it may be spent for siblings first.
        for (int amount = 0; amount <= HIGHEST_NEED; amount += NEED_STEP) {
            trial.copyBalancesFrom(now);
            trial.balanceOf[lowest] += amount;
            if (trial.spendUntilRefused(f, NONE) == NONE) {
                return amount;
            }
        }
        return NONE;
    }

    public int ifEntitled(int c, int from, int to) throws IndexOutOfBoundsException, IllegalArgumentException {
        requireFine(now.faultOfEntitle(c, from, to));
        trial.copyFrom(now);
        return trial.changeEntitlement(c, from, to);
    }

    public int ifPrice(int price) throws IllegalArgumentException {
        if (price < 1 || price > HIGHEST_PRICE) {
            throw new IllegalArgumentException("a price is 1 to 999");
        }
        trial.copyFrom(now);
        trial.price = price;
        return trial.passDays(trial.daysLeft());
    }

    public int bestEntitled() {
        int best = NONE;
        int fewest = 0;
        for (int c = 0; c < now.children; c++) {
            trial.copyFrom(now);
            trial.changeEntitlement(c, 0, DAYS - 1);
            trial.passDays(trial.daysLeft());
            int refused = trial.meals.countSince(now.today, REFUSED);
            if (best == NONE || refused < fewest) {
                best = c;
                fewest = refused;
            }
        }
        return best;
    }

    // ---- scripts, simulations

    public int runScript(int n, long script) throws IllegalArgumentException {
        if (n < 1 || n > LONGEST_SCRIPT) {
            throw new IllegalArgumentException("a script has 1 to 3 commands");
        }
        if (script < 0 || Commands.withoutLastGroups(script, n) > 0) {
            throw new IllegalArgumentException("a script has at most 6 digits a command");
        }
        trial.copyFrom(now);
        for (int i = 0; i < n; i++) {
            long upToThis = Commands.withoutLastGroups(script, n - 1 - i);
            if (!Commands.performGroup(trial, (int) (upToThis % Commands.GROUP))) {
                return i;
            }
        }
        return NONE;
    }

    public int simulate(long seed, int m) throws IllegalArgumentException {
        if (m < 1 || m > MOST_TURNS) {
            throw new IllegalArgumentException("the turns are 1 to 99");
        }
        trial.copyFrom(now);
        long x = seed;
        for (int i = 0; i < m; i++) {
            x = x * 6364136223846793005L + 1442695040888963407L;
            Commands.performTurn(trial, (int) (x >>> 33));
        }
        int served = trial.meals.countServed() - now.meals.countServed();
        int refused = trial.meals.countAll(REFUSED) - now.meals.countAll(REFUSED);
        return 1000 * served + refused;
    }

    // ---- save slots

    public int save(int slot) throws IndexOutOfBoundsException {
        if (slot < 0 || slot >= SLOTS) {
            throw new IndexOutOfBoundsException("a slot is 0 or 1");
        }
        slots[slot].copyFrom(now);
        isSaved[slot] = true;
        return now.today;
    }

    public int restore(int slot) throws IndexOutOfBoundsException, IllegalStateException {
        if (slot < 0 || slot >= SLOTS) {
            throw new IndexOutOfBoundsException("a slot is 0 or 1");
        }
        if (!isSaved[slot]) {
            throw new IllegalStateException("nothing is saved in this slot");
        }
        now.copyFrom(slots[slot]);
        history.clear();
        return now.today;
    }

    // ---- tests of arguments

    private void beginAction(int fault) {
        requireFine(fault);
        history.remember(now);
    }

    private void requireChild(int c) {
        if (!now.hasChild(c)) {
            throw new IndexOutOfBoundsException("no such child");
        }
    }

    private static void requireFamily(int f) {
        if (!isFamily(f)) {
            throw new IndexOutOfBoundsException("no such family");
        }
    }

    private static void requireDay(int d) {
        if (!isDay(d)) {
            throw new IndexOutOfBoundsException("no such day");
        }
    }

    private static void requireFine(int fault) {
        switch (fault) {
            case NO_SUCH: throw new IndexOutOfBoundsException("no such child, family or day");
            case BAD_ARGUMENT: throw new IllegalArgumentException("an argument is out of its range");
            case BAD_STATE: throw new IllegalStateException("this cannot be done now");
            default: return;
        }
    }

    private static int faultOfSet(int what, int v) {
        boolean isFine = what == 0 && v >= 1 && v <= HIGHEST_PRICE
                || what == 1 && v >= 0 && v <= HIGHEST_LIMIT;
        return isFine ? FINE : BAD_ARGUMENT;
    }

    private static boolean isFamily(int f) {
        return f >= 0 && f < FAMILIES;
    }

    private static boolean isDay(int d) {
        return d >= 0 && d < DAYS;
    }

    /** The state: everything but the text and the save slots. */
    private static final class Ledger {
        int today;
        int children;
        int price;
        int limit;
        int paidIn;
        final int[] familyOf = new int[MOST_CHILDREN];
        final int[] dietOf = new int[MOST_CHILDREN];
        final int[] balanceOf = new int[MOST_CHILDREN];
        final int[] firstDayOf = new int[MOST_CHILDREN];
        final int[] lastDayOf = new int[MOST_CHILDREN];
        final int[] menuOn = new int[DAYS];
        final int[] sharing = new int[FAMILIES];
        final int[] writtenOffFor = new int[FAMILIES];
        final Meals meals = new Meals();

        Ledger() {
            price = FIRST_PRICE;
            limit = FIRST_LIMIT;
        }

        void clear() {
            today = 0;
            children = 0;
            price = FIRST_PRICE;
            limit = FIRST_LIMIT;
            paidIn = 0;
            Arrays.fill(menuOn, 0);
            Arrays.fill(sharing, 0);
            Arrays.fill(writtenOffFor, 0);
            meals.clear();
        }

        void copyFrom(Ledger other) {
            today = other.today;
            children = other.children;
            price = other.price;
            limit = other.limit;
            paidIn = other.paidIn;
            System.arraycopy(other.familyOf, 0, familyOf, 0, MOST_CHILDREN);
            System.arraycopy(other.dietOf, 0, dietOf, 0, MOST_CHILDREN);
            System.arraycopy(other.firstDayOf, 0, firstDayOf, 0, MOST_CHILDREN);
            System.arraycopy(other.lastDayOf, 0, lastDayOf, 0, MOST_CHILDREN);
            System.arraycopy(other.menuOn, 0, menuOn, 0, DAYS);
            System.arraycopy(other.sharing, 0, sharing, 0, FAMILIES);
            System.arraycopy(other.writtenOffFor, 0, writtenOffFor, 0, FAMILIES);
            copyBalancesFrom(other);
            meals.copyFrom(other.meals);
        }

        void copyBalancesFrom(Ledger other) {
            System.arraycopy(other.balanceOf, 0, balanceOf, 0, MOST_CHILDREN);
        }

        // What there is.

        boolean hasChild(int c) {
            return c >= 0 && c < children;
        }

        int daysLeft() {
            return DAYS - today;
        }

        int childrenOf(int f) {
            int count = 0;
            for (int c = 0; c < children; c++) {
                if (familyOf[c] == f) {
                    count++;
                }
            }
            return count;
        }

        int lowestChildOf(int f) {
            for (int c = 0; c < children; c++) {
                if (familyOf[c] == f) {
                    return c;
                }
            }
            return NONE;
        }

        int sumOfBalances() {
            int sum = 0;
            for (int c = 0; c < children; c++) {
                sum += balanceOf[c];
            }
            return sum;
        }

        int sumOfBalancesOf(int f) {
            int sum = 0;
            for (int c = 0; c < children; c++) {
                if (familyOf[c] == f) {
                    sum += balanceOf[c];
                }
            }
            return sum;
        }

        int debtOf(int f) {
            int debt = 0;
            for (int c = 0; c < children; c++) {
                if (familyOf[c] == f && balanceOf[c] < 0) {
                    debt -= balanceOf[c];
                }
            }
            return debt;
        }

        int writtenOffInAll() {
            int sum = 0;
            for (int f = 0; f < FAMILIES; f++) {
                sum += writtenOffFor[f];
            }
            return sum;
        }

        boolean isEntitled(int c, int d) {
            return firstDayOf[c] != NONE && d >= firstDayOf[c] && d <= lastDayOf[c];
        }

        // What speaks against an action: the first reason that the document names for it.

        int faultOfCome(int f, int diet) {
            if (!isFamily(f)) {
                return NO_SUCH;
            }
            if (diet < 0 || diet > HIGHEST_DIET) {
                return BAD_ARGUMENT;
            }
            return children >= MOST_CHILDREN ? BAD_STATE : FINE;
        }

        int faultOfMenu(int d, int menu) {
            if (!isDay(d)) {
                return NO_SUCH;
            }
            if (menu < 0 || menu > HIGHEST_MENU) {
                return BAD_ARGUMENT;
            }
            return d < today ? BAD_STATE : FINE;
        }

        int faultOfOrder(int c, int d) {
            if (!hasChild(c) || !isDay(d)) {
                return NO_SUCH;
            }
            return d < today ? BAD_STATE : FINE;
        }

        int faultOfPay(int c, int amount) {
            if (!hasChild(c)) {
                return NO_SUCH;
            }
            if (amount == 0 || amount < -HIGHEST_AMOUNT || amount > HIGHEST_AMOUNT) {
                return BAD_ARGUMENT;
            }
            return amount < 0 && balanceOf[c] + amount < 0 ? BAD_STATE : FINE;
        }

        int faultOfMove(int c, int other, int amount) {
            if (!hasChild(c) || !hasChild(other)) {
                return NO_SUCH;
            }
            if (amount < 1 || amount > HIGHEST_AMOUNT) {
                return BAD_ARGUMENT;
            }
            boolean areSiblings = c != other && familyOf[c] == familyOf[other];
            return areSiblings && balanceOf[c] >= amount ? FINE : BAD_STATE;
        }

        int faultOfShare(int f) {
            return isFamily(f) ? FINE : NO_SUCH;
        }

        int faultOfEntitle(int c, int from, int to) {
            if (!hasChild(c) || !isDay(from)) {
                return NO_SUCH;
            }
            return to == NONE || to >= from && isDay(to) ? FINE : BAD_ARGUMENT;
        }

        int faultOfWriteOff(int f) {
            if (!isFamily(f)) {
                return NO_SUCH;
            }
            return debtOf(f) == 0 ? BAD_STATE : FINE;
        }

        int faultOfDays(int n) {
            if (n < 1 || n > DAYS) {
                return BAD_ARGUMENT;
            }
            return n > daysLeft() ? BAD_STATE : FINE;
        }

        // Actions: only called without a fault.

        int addChild(int f, int diet) {
            int c = children;
            familyOf[c] = f;
            dietOf[c] = diet;
            balanceOf[c] = 0;
            firstDayOf[c] = NONE;
            lastDayOf[c] = NONE;
            children = c + 1;
            return c;
        }

        int changeMenu(int d, int menu) {
            int previous = menuOn[d];
            menuOn[d] = menu;
            return previous;
        }

        int changeOrder(int c, int d, boolean is) {
            meals.put(c, d, is ? ORDERED : NOT_ORDERED);
            return meals.countOrderedOn(d);
        }

        int payIn(int c, int amount) {
            paidIn += amount;
            balanceOf[c] += amount;
            return balanceOf[c];
        }

        int moveBetween(int c, int other, int amount) {
            balanceOf[other] += amount;
            balanceOf[c] -= amount;
            return balanceOf[c];
        }

        int changeSharing(int f, boolean is) {
            sharing[f] = is ? 1 : 0;
            return sumOfBalancesOf(f);
        }

        int changeEntitlement(int c, int from, int to) {
            int before = sumOfBalances();
            firstDayOf[c] = to == NONE ? NONE : from;
            lastDayOf[c] = to;
            for (int d = 0; d < today; d++) {
                settleAgain(c, d);
            }
            return sumOfBalances() - before;
        }

        /** What was served is free or charged by the entitlement of now. */
        private void settleAgain(int c, int d) {
            int payer = meals.payerOf(c, d);
            if (payer != NONE && isEntitled(c, d)) {
                balanceOf[payer] += meals.chargeOf(c, d);
                meals.put(c, d, FREE);
            } else if (meals.kindOf(c, d) == FREE && !isEntitled(c, d)) {
                balanceOf[c] -= price;
                meals.putCharged(c, d, price, c);
            }
        }

        int writeDebtOff(int f) {
            int debt = debtOf(f);
            for (int c = 0; c < children; c++) {
                if (familyOf[c] == f && balanceOf[c] < 0) {
                    balanceOf[c] = 0;
                }
            }
            writtenOffFor[f] += debt;
            return debt;
        }

        int passDays(int n) {
            int served = 0;
            for (int i = 0; i < n && today < DAYS; i++) {
                for (int c = 0; c < children; c++) {
                    if (meals.kindOf(c, today) == ORDERED && serve(c)) {
                        served++;
                    }
                }
                today++;
            }
            return served;
        }

        int changeSetting(int what, int v) {
            int previous = what == 0 ? price : limit;
            if (what == 0) {
                price = v;
            } else {
                limit = v;
            }
            return previous;
        }

        // Serving.

        /** False if the meal of today is not served. */
        private boolean serve(int c) {
            int payer = payerOn(c, today);
            if (payer == NONE) {
                int kind = kindWithoutPayer(c, today);
                meals.put(c, today, kind);
                return kind == FREE;
            }
            balanceOf[payer] -= price;
            meals.putCharged(c, today, price, payer);
            return true;
        }

        private boolean isSuited(int c, int d) {
            // A menu's bits are what it has, a diet's bits what it leaves out.
            return (menuOn[d] & dietOf[c]) == 0;
        }

        /** Who is to be charged; NONE if nobody is. */
        private int payerOn(int c, int d) {
            if (!isSuited(c, d) || isEntitled(c, d)) {
                return NONE;
            }
            if (balanceOf[c] - price >= -limit) {
                return c;
            }
            return sharing[familyOf[c]] == 1 ? richestSibling(c) : NONE;
        }

        private int kindWithoutPayer(int c, int d) {
            if (!isSuited(c, d)) {
                return UNSUITED;
            }
            return isEntitled(c, d) ? FREE : REFUSED;
        }

        /** The sibling with the greatest balance that the price can be charged to. */
        private int richestSibling(int c) {
            int richest = NONE;
            int greatest = price - 1;
            for (int s = 0; s < children; s++) {
                if (s != c && familyOf[s] == familyOf[c] && balanceOf[s] > greatest) {
                    richest = s;
                    greatest = balanceOf[s];
                }
            }
            return richest;
        }

        /**
         * Spends the balances of a family as the coming days would, until that child of it (or any one,
         * if it is NONE) is refused. Returns that day, or NONE. Families do not touch one another, and no
         * meal is put down, so that another forecast needs the balances alone anew.
         */
        int spendUntilRefused(int f, int child) {
            for (int d = today; d < DAYS; d++) {
                for (int c = 0; c < children; c++) {
                    if (familyOf[c] == f && meals.kindOf(c, d) == ORDERED
                            && !spend(c, d) && (child == NONE || child == c)) {
                        return d;
                    }
                }
            }
            return NONE;
        }

        /** False if the meal is refused. */
        private boolean spend(int c, int d) {
            int payer = payerOn(c, d);
            if (payer == NONE) {
                return kindWithoutPayer(c, d) != REFUSED;
            }
            balanceOf[payer] -= price;
            return true;
        }

        // Actions that are left out if they have a fault.

        boolean tryCome(int f, int diet) {
            if (faultOfCome(f, diet) != FINE) {
                return false;
            }
            addChild(f, diet);
            return true;
        }

        boolean tryMenu(int d, int menu) {
            if (faultOfMenu(d, menu) != FINE) {
                return false;
            }
            changeMenu(d, menu);
            return true;
        }

        boolean tryOrder(int c, int d, boolean is) {
            if (faultOfOrder(c, d) != FINE) {
                return false;
            }
            changeOrder(c, d, is);
            return true;
        }

        boolean tryOtherOrder(int c, int d) {
            return hasChild(c) && isDay(d) && tryOrder(c, d, meals.kindOf(c, d) == NOT_ORDERED);
        }

        boolean tryPay(int c, int amount) {
            if (faultOfPay(c, amount) != FINE) {
                return false;
            }
            payIn(c, amount);
            return true;
        }

        boolean tryShare(int f, boolean is) {
            if (faultOfShare(f) != FINE) {
                return false;
            }
            changeSharing(f, is);
            return true;
        }

        boolean tryOtherSharing(int f) {
            return isFamily(f) && tryShare(f, sharing[f] == 0);
        }

        boolean tryEntitle(int c, int from, int to) {
            if (faultOfEntitle(c, from, to) != FINE) {
                return false;
            }
            changeEntitlement(c, from, to);
            return true;
        }

        boolean tryWriteOff(int f) {
            if (faultOfWriteOff(f) != FINE) {
                return false;
            }
            writeDebtOff(f);
            return true;
        }

        boolean tryDays(int n) {
            if (faultOfDays(n) != FINE) {
                return false;
            }
            passDays(n);
            return true;
        }
    }

    /** What became of the meal of each child on each day; a charge and a payer only where it is charged. */
    private static final class Meals {
        private static final int PLACES = MOST_CHILDREN * DAYS;

        private final int[] kinds = new int[PLACES];
        private final int[] charges = new int[PLACES];
        private final int[] payers = new int[PLACES];

        void clear() {
            Arrays.fill(kinds, NOT_ORDERED);
        }

        void copyFrom(Meals other) {
            System.arraycopy(other.kinds, 0, kinds, 0, PLACES);
            System.arraycopy(other.charges, 0, charges, 0, PLACES);
            System.arraycopy(other.payers, 0, payers, 0, PLACES);
        }

        private static int place(int c, int d) {
            return c * DAYS + d;
        }

        void put(int c, int d, int kind) {
            kinds[place(c, d)] = kind;
        }

        void putCharged(int c, int d, int charge, int payer) {
            int place = place(c, d);
            kinds[place] = CHARGED;
            charges[place] = charge;
            payers[place] = payer;
        }

        int kindOf(int c, int d) {
            return kinds[place(c, d)];
        }

        int chargeOf(int c, int d) {
            int place = place(c, d);
            if (kinds[place] == CHARGED) {
                return charges[place];
            }
            return kinds[place] == FREE ? 0 : NONE;
        }

        int payerOf(int c, int d) {
            int place = place(c, d);
            return kinds[place] == CHARGED ? payers[place] : NONE;
        }

        int countAll(int kind) {
            int count = 0;
            for (int place = 0; place < PLACES; place++) {
                if (kinds[place] == kind) {
                    count++;
                }
            }
            return count;
        }

        int countServed() {
            return countAll(CHARGED) + countAll(FREE);
        }

        int countSince(int day, int kind) {
            int count = 0;
            for (int d = day; d < DAYS; d++) {
                count += countOn(d, kind);
            }
            return count;
        }

        int countOn(int d, int kind) {
            int count = 0;
            for (int c = 0; c < MOST_CHILDREN; c++) {
                if (kindOf(c, d) == kind) {
                    count++;
                }
            }
            return count;
        }

        int countOrderedOn(int d) {
            return MOST_CHILDREN - countOn(d, NOT_ORDERED);
        }

        int countOf(int c, int kind) {
            int count = 0;
            for (int d = 0; d < DAYS; d++) {
                if (kindOf(c, d) == kind) {
                    count++;
                }
            }
            return count;
        }

        int countChargedToSiblings(int c) {
            int count = 0;
            for (int d = 0; d < DAYS; d++) {
                if (kindOf(c, d) == CHARGED && payerOf(c, d) != c) {
                    count++;
                }
            }
            return count;
        }

        int chargedTo(int payer) {
            int sum = 0;
            for (int place = 0; place < PLACES; place++) {
                if (kinds[place] == CHARGED && payers[place] == payer) {
                    sum += charges[place];
                }
            }
            return sum;
        }

        int chargedOn(int d) {
            int sum = 0;
            for (int c = 0; c < MOST_CHILDREN; c++) {
                if (kindOf(c, d) == CHARGED) {
                    sum += chargeOf(c, d);
                }
            }
            return sum;
        }

        int chargedInAll() {
            int sum = 0;
            for (int d = 0; d < DAYS; d++) {
                sum += chargedOn(d);
            }
            return sum;
        }
    }

    /** The states before the last actions: a ring of ledgers, made once and used again. */
    private static final class History {
        private final Ledger[] states = new Ledger[MOST_REMEMBERED];
        private int oldest;
        int count;

        History() {
            for (int i = 0; i < MOST_REMEMBERED; i++) {
                states[i] = new Ledger();
            }
        }

        void clear() {
            count = 0;
        }

        void remember(Ledger state) {
            if (count == MOST_REMEMBERED) {
                oldest = (oldest + 1) % MOST_REMEMBERED;
                count--;
            }
            states[(oldest + count) % MOST_REMEMBERED].copyFrom(state);
            count++;
        }

        int takeBack(Ledger into) {
            count--;
            into.copyFrom(states[(oldest + count) % MOST_REMEMBERED]);
            return count;
        }
    }

    /** The text buffer, and a reader that goes over it as far as it is a term. */
    private static final class Text {
        private static final int MOST_NUMBERS = 3;

        private final char[] characters = new char[LONGEST_TEXT];
        int length;
        private int position;
        char letter;
        final int[] numbers = new int[MOST_NUMBERS];

        int add(char c) {
            characters[length] = c;
            length++;
            return length;
        }

        int firstError() {
            boolean isTerm = readStart();
            // A command has at least one character, so there are no more of them than characters.
            for (int i = 0; i < LONGEST_TEXT && isTerm && !isAtEnd(); i++) {
                isTerm = readCommand();
            }
            return isTerm ? NONE : position;
        }

        boolean isAtEnd() {
            return position >= length;
        }

        boolean readStart() {
            position = 0;
            if (isAtEnd() || characters[position] != 'S') {
                return false;
            }
            position++;
            return true;
        }

        /** Reads a command's letter and numbers; where it is wrong, the position stays at the error. */
        boolean readCommand() {
            if (isAtEnd()) {
                return false;
            }
            letter = characters[position];
            String kinds = numbersOf(letter);
            if (kinds.isEmpty()) {
                return false;
            }
            position++;
            for (int i = 0; i < kinds.length() && i < MOST_NUMBERS; i++) {
                if (!readNumber(i, kinds.charAt(i))) {
                    return false;
                }
            }
            return true;
        }

        /** The kinds of the numbers behind a letter; empty if it begins no command. */
        private static String numbersOf(char letter) {
            switch (letter) {
                case 'c': return "ft";
                case 'm': return "dt";
                case 'o': return "cd";
                case 'p': return "ca";
                case 'e': return "cdd";
                case 'h': return "f";
                case 'd': return "n";
                default: return "";
            }
        }

        private boolean readNumber(int index, char kind) {
            switch (kind) {
                case 'f': return readRange(index, 1, 0, FAMILIES - 1);
                case 't': return readRange(index, 1, 0, HIGHEST_DIET);
                case 'n': return readRange(index, 1, 1, 9);
                case 'd': return readRange(index, 2, 0, DAYS - 1);
                case 'c': return readRange(index, 2, 0, MOST_CHILDREN - 1);
                case 'a': return readRange(index, 4, 1, HIGHEST_AMOUNT);
                default: return false;
            }
        }

        private boolean readRange(int index, int digits, int low, int high) {
            int begun = 0;
            for (int left = digits - 1; left >= 0; left--) {
                if (isAtEnd()) {
                    return false;
                }
                int digit = characters[position] - '0';
                if (digit < 0 || digit > 9) {
                    return false;
                }
                begun = 10 * begun + digit;
                if (lowestWith(begun, left) > high || highestWith(begun, left) < low) {
                    return false;
                }
                position++;
            }
            numbers[index] = begun;
            return true;
        }

        private static int lowestWith(int begun, int digitsLeft) {
            int number = begun;
            for (int i = 0; i < digitsLeft; i++) {
                number = 10 * number;
            }
            return number;
        }

        private static int highestWith(int begun, int digitsLeft) {
            int number = begun;
            for (int i = 0; i < digitsLeft; i++) {
                number = 10 * number + 9;
            }
            return number;
        }
    }

    /** The three ways to write an action down: as a text, as a group of digits, as a random number. */
    private static final class Commands {
        static final int GROUP = 1000000;

        /** Performs the command that was read last; false if it is left out. */
        static boolean performText(Ledger state, Text text) {
            int first = text.numbers[0];
            int second = text.numbers[1];
            switch (text.letter) {
                case 'c': return state.tryCome(first, second);
                case 'm': return state.tryMenu(first, second);
                case 'o': return state.tryOtherOrder(first, second);
                case 'p': return state.tryPay(first, second);
                case 'e': return state.tryEntitle(first, second, text.numbers[2]);
                case 'h': return state.tryOtherSharing(first);
                case 'd': return state.tryDays(first);
                default: return false;
            }
        }

        static long withoutLastGroups(long script, int groups) {
            long left = script;
            for (int i = 0; i < groups; i++) {
                left /= GROUP;
            }
            return left;
        }

        /** Performs a command of six digits; false if it fails. */
        static boolean performGroup(Ledger state, int group) {
            int c = group / 1000 % 100;
            int d = group / 10 % 100;
            int f = group / 10000 % 10;
            int last = group % 10;
            switch (group / 100000) {
                case 1: return last <= 1 && state.tryOrder(c, d, last == 1);
                case 2: return state.tryPay(c, group % 1000);
                case 3: return last == 0 && state.tryEntitle(c, 0, d);
                case 4: return group / 10 % 1000 == 0 && last <= 1 && state.tryShare(f, last == 1);
                case 5: return group % 10000 == 0 && state.tryWriteOff(f);
                case 6: return group / 100 % 1000 == 0 && state.tryDays(group % 100);
                case 7: return state.hasChild(c) && isDay(d) && state.meals.kindOf(c, d) == last;
                case 8: return last == 0 && isFamily(f) && state.debtOf(f) <= group / 10 % 1000 * 10;
                case 9: return group / 100 % 1000 == 0 && state.meals.countServed() >= group % 100;
                default: return false;
            }
        }

        /** Performs a turn of a simulation; false if it is left out. */
        static boolean performTurn(Ledger state, int r) {
            int c = r / 16 % Math.max(state.children, 1);
            int d = r / 256 % DAYS;
            int f = r / 16 % FAMILIES;
            switch (r % 16) {
                case 0: return state.tryCome(f, r / 128 % 4);
                case 7:
                case 8: return state.tryPay(c, 1 + r / 16384 % 999);
                case 9: return state.tryEntitle(c, d, DAYS - 1);
                case 10: return state.tryShare(f, true);
                case 11: return state.tryMenu(d, r / 16384 % 4);
                case 12:
                case 13:
                case 14: return state.tryDays(1);
                case 15: return state.tryWriteOff(f);
                default: return state.tryOrder(c, d, true);
            }
        }
    }
}
