import java.util.ArrayDeque;
import java.util.ArrayList;
import java.util.Deque;
import java.util.List;
import java.util.TreeMap;
import java.util.regex.Matcher;
import java.util.regex.Pattern;

/** The document a second time, held in another way (objects, lists, regular expressions), to compare with. */
final class Model {
    static final int NONE = -1;
    private static final Pattern TERM = Pattern.compile(
            "S(?:c[0-4][0-3]"
            + "|m[0-3][0-9][0-3]"
            + "|o(?:0[0-9]|1[01])[0-3][0-9]"
            + "|p(?:0[0-9]|1[01])(?:000[1-9]|00[1-9][0-9]|0[1-9][0-9][0-9]|[1-9][0-9][0-9][0-9])"
            + "|e(?:0[0-9]|1[01])[0-3][0-9][0-3][0-9]"
            + "|h[0-4]"
            + "|d[1-9])*", Pattern.DOTALL);

    /** A meal that is ordered, or what became of it. */
    private static final class Meal {
        int kind = 1;
        int cost;
        int payer = NONE;

        Meal copy() {
            Meal m = new Meal();
            m.kind = kind;
            m.cost = cost;
            m.payer = payer;
            return m;
        }

        boolean isServed() {
            return kind == 2 || kind == 3;
        }
    }

    private static final class Kid {
        final int family;
        final boolean noMeat;
        final boolean noMilk;
        int balance;
        int first = NONE;
        int last = NONE;
        final TreeMap<Integer, Meal> meals = new TreeMap<>();

        Kid(int family, boolean noMeat, boolean noMilk) {
            this.family = family;
            this.noMeat = noMeat;
            this.noMilk = noMilk;
        }

        Kid copy() {
            Kid k = new Kid(family, noMeat, noMilk);
            k.balance = balance;
            k.first = first;
            k.last = last;
            meals.forEach((d, m) -> k.meals.put(d, m.copy()));
            return k;
        }

        boolean entitled(int d) {
            return first >= 0 && first <= d && d <= last;
        }
    }

    private static final class State {
        int today;
        final List<Kid> kids = new ArrayList<>();
        boolean[] meat = new boolean[40];
        boolean[] milk = new boolean[40];
        boolean[] shares = new boolean[5];
        int[] written = new int[5];
        int[] setting = {250, 500};
        int paid;

        State copy() {
            State s = new State();
            s.today = today;
            for (Kid k : kids) {
                s.kids.add(k.copy());
            }
            s.meat = meat.clone();
            s.milk = milk.clone();
            s.shares = shares.clone();
            s.written = written.clone();
            s.setting = setting.clone();
            s.paid = paid;
            return s;
        }
    }

    private StringBuilder text = new StringBuilder();
    private State state = new State();
    private final Deque<State> remembered = new ArrayDeque<>();
    private final State[] slots = new State[2];

    private static void index(boolean fine) {
        if (!fine) {
            throw new IndexOutOfBoundsException();
        }
    }

    private static void argument(boolean fine) {
        if (!fine) {
            throw new IllegalArgumentException();
        }
    }

    private static void allowed(boolean fine) {
        if (!fine) {
            throw new IllegalStateException();
        }
    }

    private void act() {
        remembered.addLast(state.copy());
        if (remembered.size() > 14) {
            remembered.removeFirst();
        }
    }

    private static Model on(State s) {
        Model m = new Model();
        m.state = s;
        return m;
    }

    private boolean kid(int c) {
        return 0 <= c && c < state.kids.size();
    }

    private static boolean fam(int f) {
        return 0 <= f && f <= 4;
    }

    private static boolean isDay(int d) {
        return 0 <= d && d <= 39;
    }

    private List<Meal> all() {
        List<Meal> l = new ArrayList<>();
        state.kids.forEach(k -> l.addAll(k.meals.values()));
        return l;
    }

    private List<Kid> of(int f) {
        return state.kids.stream().filter(k -> k.family == f).toList();
    }

    int append(int c) {
        argument(0 <= c && c <= 255);
        allowed(text.length() < 120);
        return text.append((char) c).length();
    }

    int clearText() {
        int n = text.length();
        text = new StringBuilder();
        return n;
    }

    int errorPosition() {
        for (int i = 1; i <= text.length(); i++) {
            Matcher m = TERM.matcher(text.substring(0, i));
            if (!m.matches() && !m.hitEnd()) {
                return i - 1;
            }
        }
        return TERM.matcher(text).matches() ? NONE : text.length();
    }

    int load() {
        allowed(errorPosition() == NONE);
        state = new State();
        int left = 0;
        Matcher m = Pattern.compile("([a-z])([0-9]+)").matcher(text);
        while (m.find()) {
            String n = m.group(2);
            try {
                switch (m.group(1)) {
                    case "c" -> come(num(n, 0, 1), num(n, 1, 2));
                    case "m" -> menu(num(n, 0, 2), num(n, 2, 3));
                    case "o" -> {
                        int c = num(n, 0, 2);
                        int d = num(n, 2, 4);
                        order(c, d, !(kid(c) && state.kids.get(c).meals.containsKey(d)));
                    }
                    case "p" -> pay(num(n, 0, 2), num(n, 2, 6));
                    case "e" -> entitle(num(n, 0, 2), num(n, 2, 4), num(n, 4, 6));
                    case "h" -> share(num(n, 0, 1), !state.shares[num(n, 0, 1)]);
                    default -> days(num(n, 0, 1));
                }
            } catch (RuntimeException e) {
                left++;
            }
        }
        remembered.clear();
        slots[0] = null;
        slots[1] = null;
        return left;
    }

    private static int num(String s, int from, int to) {
        return Integer.parseInt(s.substring(from, to));
    }

    int about(int what) {
        argument(0 <= what && what <= 11);
        return switch (what) {
            case 0 -> state.today;
            case 1 -> state.kids.size();
            case 2 -> (int) all().stream().filter(m -> m.kind == 1).count();
            case 3 -> (int) all().stream().filter(Meal::isServed).count();
            case 4 -> (int) all().stream().filter(m -> m.kind == 2).count();
            case 5 -> (int) all().stream().filter(m -> m.kind == 3).count();
            case 6 -> (int) all().stream().filter(m -> m.kind == 4).count();
            case 7 -> (int) all().stream().filter(m -> m.kind == 5).count();
            case 8 -> state.paid;
            case 9 -> all().stream().filter(m -> m.kind == 2).mapToInt(m -> m.cost).sum();
            case 10 -> java.util.Arrays.stream(state.written).sum();
            default -> state.kids.stream().mapToInt(k -> k.balance).sum();
        };
    }

    int child(int c, int what) {
        index(kid(c));
        argument(0 <= what && what <= 8);
        Kid k = state.kids.get(c);
        return switch (what) {
            case 0 -> k.family;
            case 1 -> (k.noMeat ? 1 : 0) + (k.noMilk ? 2 : 0);
            case 2 -> k.balance;
            case 3 -> k.first;
            case 4 -> k.last;
            case 5 -> (int) k.meals.values().stream().filter(Meal::isServed).count();
            case 6 -> (int) k.meals.values().stream().filter(m -> m.kind == 2 && m.payer != c).count();
            case 7 -> all().stream().filter(m -> m.kind == 2 && m.payer == c).mapToInt(m -> m.cost).sum();
            default -> (int) k.meals.values().stream().filter(m -> m.kind == 4).count();
        };
    }

    int family(int f, int what) {
        index(fam(f));
        argument(0 <= what && what <= 4);
        return switch (what) {
            case 0 -> of(f).size();
            case 1 -> state.shares[f] ? 1 : 0;
            case 2 -> of(f).stream().mapToInt(k -> k.balance).sum();
            case 3 -> of(f).stream().mapToInt(k -> Math.max(0, -k.balance)).sum();
            default -> state.written[f];
        };
    }

    int day(int d, int what) {
        index(isDay(d));
        argument(0 <= what && what <= 3);
        List<Meal> meals = new ArrayList<>();
        for (Kid k : state.kids) {
            if (k.meals.containsKey(d)) {
                meals.add(k.meals.get(d));
            }
        }
        return switch (what) {
            case 0 -> (state.meat[d] ? 1 : 0) + (state.milk[d] ? 2 : 0);
            case 1 -> meals.size();
            case 2 -> (int) meals.stream().filter(Meal::isServed).count();
            default -> meals.stream().filter(m -> m.kind == 2).mapToInt(m -> m.cost).sum();
        };
    }

    int meal(int c, int d, int what) {
        index(kid(c) && isDay(d));
        argument(0 <= what && what <= 2);
        Meal m = state.kids.get(c).meals.get(d);
        if (what == 0) {
            return m == null ? 0 : m.kind;
        }
        if (m == null || !m.isServed()) {
            return NONE;
        }
        if (what == 1) {
            return m.kind == 3 ? 0 : m.cost;
        }
        return m.kind == 3 ? NONE : m.payer;
    }

    int setting(int what) {
        argument(what == 0 || what == 1);
        return state.setting[what];
    }

    int come(int f, int diet) {
        index(fam(f));
        argument(0 <= diet && diet <= 3);
        allowed(state.kids.size() < 12);
        act();
        state.kids.add(new Kid(f, diet == 1 || diet == 3, diet >= 2));
        return state.kids.size() - 1;
    }

    int menu(int d, int menu) {
        index(isDay(d));
        argument(0 <= menu && menu <= 3);
        allowed(d >= state.today);
        int before = day(d, 0);
        act();
        state.meat[d] = menu == 1 || menu == 3;
        state.milk[d] = menu >= 2;
        return before;
    }

    int order(int c, int d, boolean is) {
        index(kid(c) && isDay(d));
        allowed(d >= state.today);
        act();
        if (is) {
            state.kids.get(c).meals.putIfAbsent(d, new Meal());
        } else {
            state.kids.get(c).meals.remove(d);
        }
        return day(d, 1);
    }

    int pay(int c, int amount) {
        index(kid(c));
        argument(amount != 0 && -9999 <= amount && amount <= 9999);
        allowed(amount > 0 || state.kids.get(c).balance + amount >= 0);
        act();
        state.paid += amount;
        return state.kids.get(c).balance += amount;
    }

    int move(int c, int other, int amount) {
        index(kid(c) && kid(other));
        argument(1 <= amount && amount <= 9999);
        allowed(c != other);
        allowed(state.kids.get(c).family == state.kids.get(other).family);
        allowed(state.kids.get(c).balance - amount >= 0);
        act();
        state.kids.get(other).balance += amount;
        return state.kids.get(c).balance -= amount;
    }

    int share(int f, boolean is) {
        index(fam(f));
        act();
        state.shares[f] = is;
        return family(f, 2);
    }

    int entitle(int c, int from, int to) {
        index(kid(c) && isDay(from));
        argument(to == NONE || from <= to && to <= 39);
        act();
        int before = about(11);
        Kid k = state.kids.get(c);
        k.first = to == NONE ? NONE : from;
        k.last = to;
        k.meals.forEach((d, m) -> {
            if (m.kind == 2 && k.entitled(d)) {
                state.kids.get(m.payer).balance += m.cost;
                m.kind = 3;
            } else if (m.kind == 3 && !k.entitled(d)) {
                m.kind = 2;
                m.cost = state.setting[0];
                m.payer = c;
                k.balance -= m.cost;
            }
        });
        return about(11) - before;
    }

    int writeOff(int f) {
        index(fam(f));
        int debt = family(f, 3);
        allowed(debt > 0);
        act();
        of(f).forEach(k -> k.balance = Math.max(0, k.balance));
        state.written[f] += debt;
        return debt;
    }

    int days(int n) {
        argument(1 <= n && n <= 40);
        allowed(state.today + n <= 40);
        act();
        int before = about(3);
        pass(n);
        return about(3) - before;
    }

    private void pass(int n) {
        for (int i = 0; i < n; i++) {
            for (int c = 0; c < state.kids.size(); c++) {
                Meal m = state.kids.get(c).meals.get(state.today);
                if (m != null) {
                    serve(c, m);
                }
            }
            state.today++;
        }
    }

    private void serve(int c, Meal m) {
        Kid k = state.kids.get(c);
        int d = state.today;
        int price = state.setting[0];
        if (state.meat[d] && k.noMeat || state.milk[d] && k.noMilk) {
            m.kind = 5;
        } else if (k.entitled(d)) {
            m.kind = 3;
        } else if (k.balance - price >= 0 - state.setting[1]) {
            charge(c, m, price);
        } else {
            int best = NONE;
            for (int s = state.kids.size() - 1; s >= 0; s--) {
                Kid sibling = state.kids.get(s);
                if (s != c && sibling.family == k.family && sibling.balance >= price
                        && (best == NONE || sibling.balance >= state.kids.get(best).balance)) {
                    best = s;
                }
            }
            if (state.shares[k.family] && best != NONE) {
                charge(best, m, price);
            } else {
                m.kind = 4;
            }
        }
    }

    private void charge(int payer, Meal m, int price) {
        m.kind = 2;
        m.cost = price;
        m.payer = payer;
        state.kids.get(payer).balance -= price;
    }

    int set(int what, int v) {
        argument(what == 0 && 1 <= v && v <= 999 || what == 1 && 0 <= v && v <= 9999);
        act();
        int before = state.setting[what];
        state.setting[what] = v;
        return before;
    }

    int undo() {
        allowed(!remembered.isEmpty());
        state = remembered.removeLast();
        return remembered.size();
    }

    int refusedOn(int c) {
        index(kid(c));
        Model m = on(state.copy());
        while (m.state.today < 40) {
            int d = m.state.today;
            m.pass(1);
            if (m.meal(c, d, 0) == 4) {
                return d;
            }
        }
        return NONE;
    }

    int needs(int f) {
        index(fam(f));
        for (int amount = 0; amount <= 20000 && !of(f).isEmpty(); amount += 100) {
            Model m = on(state.copy());
            m.of(f).get(0).balance += amount;
            m.pass(40 - m.state.today);
            long refused = m.of(f).stream().flatMap(k -> k.meals.tailMap(state.today).values().stream())
                    .filter(x -> x.kind == 4).count();
            if (refused == 0) {
                return amount;
            }
        }
        return NONE;
    }

    int ifEntitled(int c, int from, int to) {
        return on(state.copy()).entitle(c, from, to);
    }

    int ifPrice(int price) {
        argument(1 <= price && price <= 999);
        Model m = on(state.copy());
        m.state.setting[0] = price;
        m.pass(40 - m.state.today);
        return m.about(3) - about(3);
    }

    int bestEntitled() {
        int best = NONE;
        int fewest = Integer.MAX_VALUE;
        for (int c = 0; c < state.kids.size(); c++) {
            Model m = on(state.copy());
            m.entitle(c, 0, 39);
            int before = m.about(6);
            m.pass(40 - m.state.today);
            if (m.about(6) - before < fewest) {
                fewest = m.about(6) - before;
                best = c;
            }
        }
        return best;
    }

    int runScript(int n, long script) {
        argument(1 <= n && n <= 3);
        argument(script >= 0 && Long.toString(script).length() <= 6 * n);
        String digits = String.format("%0" + 6 * n + "d", script);
        Model m = on(state.copy());
        for (int i = 0; i < n; i++) {
            try {
                m.command(digits.substring(6 * i, 6 * i + 6));
            } catch (RuntimeException e) {
                return i;
            }
        }
        return NONE;
    }

    private void command(String g) {
        int cc = num(g, 1, 3);
        int f = num(g, 1, 2);
        if (g.matches("1....[01]")) {
            order(cc, num(g, 3, 5), g.endsWith("1"));
        } else if (g.matches("2.....")) {
            pay(cc, num(g, 3, 6));
        } else if (g.matches("3....0")) {
            entitle(cc, 0, num(g, 3, 5));
        } else if (g.matches("4.000[01]")) {
            share(f, g.endsWith("1"));
        } else if (g.matches("5.0000")) {
            writeOff(f);
        } else if (g.matches("6000..")) {
            days(num(g, 4, 6));
        } else if (g.matches("7.....")) {
            allowed(meal(cc, num(g, 3, 5), 0) == num(g, 5, 6));
        } else if (g.matches("8....0")) {
            allowed(family(f, 3) <= 10 * num(g, 2, 5));
        } else if (g.matches("9000..")) {
            allowed(about(3) >= num(g, 4, 6));
        } else {
            throw new IllegalStateException();
        }
    }

    int simulate(long seed, int m) {
        argument(1 <= m && m <= 99);
        Model copy = on(state.copy());
        long x = seed;
        for (int i = 0; i < m; i++) {
            x = x * 6364136223846793005L + 1442695040888963407L;
            int r = (int) (x >>> 33);
            try {
                copy.turn(r);
            } catch (RuntimeException e) {
                // left out
            }
        }
        return 1000 * (copy.about(3) - about(3)) + copy.about(6) - about(6);
    }

    private void turn(int r) {
        int c = r / 16 % (state.kids.isEmpty() ? 1 : state.kids.size());
        int d = r / 256 % 40;
        switch (r % 16) {
            case 0 -> come(r / 16 % 5, r / 128 % 4);
            case 1, 2, 3, 4, 5, 6 -> order(c, d, true);
            case 7, 8 -> pay(c, 1 + r / 16384 % 999);
            case 9 -> entitle(c, d, 39);
            case 10 -> share(r / 16 % 5, true);
            case 11 -> menu(d, r / 16384 % 4);
            case 12, 13, 14 -> days(1);
            default -> writeOff(r / 16 % 5);
        }
    }

    int save(int slot) {
        index(slot == 0 || slot == 1);
        slots[slot] = state.copy();
        return state.today;
    }

    int restore(int slot) {
        index(slot == 0 || slot == 1);
        allowed(slots[slot] != null);
        state = slots[slot].copy();
        remembered.clear();
        return state.today;
    }
}
