import java.util.ArrayList;
import java.util.List;
import java.util.Random;

/** Random runs of at most 512 calls: the class must answer each call as the model does. */
public final class RandomRunsTest {
    private static final int RUNS = 3000;
    private static final int CALLS = 512;
    private static final int MOST_TOLD = 5;

    private final Random random;
    private final MealAccounts accounts = new MealAccounts();
    private final Model model = new Model();
    private final List<Call> made = new ArrayList<>();
    private final int orders;
    private final int payments;
    private final int highestPayment;
    private final int passing;
    private final int seldom;
    private String fault;

    private RandomRunsTest(long seed) {
        random = new Random(seed);
        orders = 1 + random.nextInt(12);
        payments = 1 + random.nextInt(6);
        highestPayment = random.nextBoolean() ? 600 : 9999;
        passing = random.nextInt(4);
        seldom = random.nextInt(10) == 0 ? 6 : 200;
    }

    public static void main(String[] args) {
        int wrong = 0;
        for (int seed = 0; seed < RUNS && wrong < MOST_TOLD; seed++) {
            String fault = new RandomRunsTest(seed).firstFault();
            if (fault != null) {
                wrong++;
                System.out.println("random run " + seed + ": " + fault);
            }
        }
        System.exit(wrong == 0 ? 0 : 1);
    }

    private String firstFault() {
        if (random.nextInt(3) > 0) {
            startWithAClass();
        }
        while (fault == null && made.size() < CALLS) {
            randomStep();
        }
        return fault;
    }

    private void make(String name, Object... arguments) {
        if (fault != null || made.size() >= CALLS) {
            return;
        }
        Call call = Call.of(name, arguments);
        made.add(call);
        String got = call.on(accounts);
        String due = call.on(model);
        if (!got.equals(due)) {
            fault = "call " + made.size() + " " + call + " answered " + got + ", the model says " + due
                    + "\n  after " + made.subList(Math.max(0, made.size() - 30), made.size() - 1);
        }
    }

    private boolean oneIn(int n) {
        return random.nextInt(n) == 0;
    }

    /** Mostly from low to high, at times just beside it, seldom far away. */
    private int about(int low, int high) {
        if (oneIn(40)) {
            return random.nextBoolean() ? low - 1 : high + 1;
        }
        if (oneIn(seldom)) {
            int[] far = {Integer.MIN_VALUE, Integer.MAX_VALUE, Integer.MIN_VALUE + 1, -1, -2, 256, 65536,
                random.nextInt()};
            return far[random.nextInt(far.length)];
        }
        if (oneIn(12)) {
            return random.nextBoolean() ? low : high;
        }
        return low + random.nextInt(high - low + 1);
    }

    private int someChild() {
        int children = model.about(1);
        return about(0, Math.max(children - 1, 0));
    }

    private int someFamily() {
        return oneIn(2) ? random.nextInt(2) : about(0, 4);
    }

    private int someDay() {
        int today = model.about(0);
        if (today < 40 && !oneIn(5)) {
            return today + random.nextInt(Math.min(40 - today, 1 + random.nextInt(40)));
        }
        return about(0, 39);
    }

    private void startWithAClass() {
        int children = 1 + random.nextInt(12);
        int families = 1 + random.nextInt(5);
        for (int c = 0; c < children; c++) {
            make("come", random.nextInt(families), oneIn(2) ? 0 : random.nextInt(4));
        }
        for (int f = 0; f < families; f++) {
            make("share", f, random.nextBoolean());
        }
    }

    private void randomStep() {
        switch (random.nextInt(14)) {
            case 0, 1, 2, 3 -> {
                for (int i = 0; i < orders; i++) {
                    make("order", someChild(), someDay(), !oneIn(8));
                }
            }
            case 4, 5 -> {
                for (int i = 0; i < payments; i++) {
                    payment();
                }
            }
            case 6, 7 -> otherAction();
            case 8 -> pass();
            case 9 -> slots();
            case 10 -> forecast();
            case 11 -> text();
            default -> questions();
        }
    }

    private void payment() {
        switch (random.nextInt(6)) {
            case 0 -> make("pay", someChild(), about(-9999, 9999));
            case 1 -> make("pay", someChild(), -about(1, 600));
            case 2 -> make("move", someChild(), someChild(), about(1, highestPayment));
            default -> make("pay", someChild(), about(1, highestPayment));
        }
    }

    private void otherAction() {
        switch (random.nextInt(10)) {
            case 0, 1, 2 -> entitle("entitle");
            case 3 -> make("writeOff", someFamily());
            case 4, 5 -> make("menu", someDay(), about(0, 3));
            case 6 -> make("share", someFamily(), random.nextBoolean());
            case 7 -> make("come", about(0, 4), about(0, 3));
            case 8 -> set();
            default -> {
                for (int i = 1 + random.nextInt(oneIn(6) ? 17 : 3); i > 0; i--) {
                    make("undo");
                }
            }
        }
    }

    private void entitle(String name) {
        int from = oneIn(3) ? 0 : oneIn(3) ? about(0, Math.min(39, model.about(0))) : about(0, 39);
        int to = oneIn(4) ? -1 : oneIn(8) ? about(0, 39) : about(Math.min(Math.max(from, 0), 39), 39);
        make(name, someChild(), from, to);
    }

    private void set() {
        switch (random.nextInt(4)) {
            case 0 -> make("set", 0, about(1, 999));
            case 1 -> make("set", 1, about(0, 9999));
            case 2 -> make("set", 1, about(0, 300));
            default -> make("set", about(0, 1), about(0, 1000));
        }
    }

    private void pass() {
        if (oneIn(40)) {
            make("days", about(1, 40));
        } else if (!oneIn(passing + 1) || oneIn(4)) {
            make("days", oneIn(4) ? about(0, 4) : 1);
        }
    }

    private void slots() {
        if (oneIn(2)) {
            make("save", about(0, 1));
        } else if (oneIn(2)) {
            make("restore", about(0, 1));
        }
    }

    private void forecast() {
        switch (random.nextInt(12)) {
            case 0, 1, 2 -> make("refusedOn", someChild());
            case 3 -> make("needs", someFamily());
            case 4, 5 -> entitle("ifEntitled");
            case 6 -> make("ifPrice", about(1, 999));
            case 7 -> make("bestEntitled");
            case 8, 9, 10 -> script();
            default -> make("simulate", oneIn(9) ? random.nextInt(3) - 1L : random.nextLong(), about(1, 99));
        }
    }

    private void script() {
        int n = oneIn(30) ? about(0, 4) : about(1, 3);
        StringBuilder groups = new StringBuilder();
        for (int i = 0; i < n && i < 3; i++) {
            groups.append(group());
        }
        long script = groups.length() == 0 ? 0 : Long.parseLong(groups.toString());
        if (oneIn(30)) {
            long[] odd = {-1, Long.MIN_VALUE, Long.MAX_VALUE, 1000000, 999999, 1000000000000L, 999999999999L,
                1000000000000000000L, 999999999999999999L, -script};
            script = odd[random.nextInt(odd.length)];
        }
        make("runScript", n, script);
    }

    private String group() {
        int c = Math.floorMod(someChild(), 13);
        int d = Math.floorMod(someDay(), 42);
        int f = Math.floorMod(someFamily(), 6);
        String group = switch (random.nextInt(10)) {
            case 1, 0 -> String.format("1%02d%02d%d", c, d, random.nextInt(2));
            case 2 -> String.format("2%02d%03d", c, random.nextInt(1000));
            case 3 -> String.format("3%02d%02d0", c, d);
            case 4 -> String.format("4%d000%d", f, random.nextInt(2));
            case 5 -> String.format("5%d0000", f);
            case 6 -> String.format("6000%02d", oneIn(5) ? random.nextInt(100) : random.nextInt(8));
            case 7 -> String.format("7%02d%02d%d", c, d, random.nextInt(6));
            case 8 -> String.format("8%d%03d0", f, random.nextInt(oneIn(3) ? 1000 : 60));
            default -> String.format("9000%02d", oneIn(4) ? random.nextInt(100) : random.nextInt(20));
        };
        if (!oneIn(6)) {
            return group;
        }
        int at = random.nextInt(6);
        return group.substring(0, at) + random.nextInt(10) + group.substring(at + 1);
    }

    private void text() {
        if (!oneIn(5)) {
            make("errorPosition");
            return;
        }
        if (!oneIn(5)) {
            make("clearText");
        }
        for (char c : randomText().toCharArray()) {
            make("append", (int) c);
        }
        make("errorPosition");
        make("append", oneIn(9) ? about(0, 255) : -1);
        if (oneIn(2)) {
            make("load");
            questions();
        }
    }

    private String randomText() {
        StringBuilder text = new StringBuilder(oneIn(20) ? "" : "S");
        int commands = random.nextInt(random.nextBoolean() ? 12 : 32);
        for (int i = 0; i < commands; i++) {
            text.append(command(i));
        }
        if (text.length() > 0 && oneIn(3)) {
            int at = random.nextInt(text.length());
            String signs = "Scmopehd 0123456789/:\n\u00ff";
            char sign = signs.charAt(random.nextInt(signs.length()));
            switch (random.nextInt(3)) {
                case 0 -> text.setCharAt(at, sign);
                case 1 -> text.insert(at, sign);
                default -> text.deleteCharAt(at);
            }
        }
        if (oneIn(8)) {
            text.setLength(random.nextInt(text.length() + 1));
        }
        return text.toString();
    }

    private String command(int before) {
        int c = random.nextInt(oneIn(8) ? 12 : 4);
        int d = random.nextInt(oneIn(3) ? 40 : 6);
        if (before < 4 && !oneIn(4)) {
            return "c" + random.nextInt(oneIn(3) ? 5 : 2) + random.nextInt(4);
        }
        return switch (random.nextInt(11)) {
            case 0 -> "c" + random.nextInt(5) + random.nextInt(4);
            case 1 -> String.format("m%02d%d", d, random.nextInt(4));
            case 2, 3, 4, 5 -> String.format("o%02d%02d", c, d);
            case 6 -> String.format("p%02d%04d", c, 1 + random.nextInt(oneIn(3) ? 9999 : 400));
            case 7 -> String.format("e%02d%02d%02d", c, d, random.nextInt(40));
            case 8 -> "h" + random.nextInt(oneIn(3) ? 5 : 2);
            default -> "d" + (1 + random.nextInt(oneIn(5) ? 9 : 2));
        };
    }

    private void questions() {
        int asked = 1 + random.nextInt(8);
        for (int i = 0; i < asked; i++) {
            switch (random.nextInt(9)) {
                case 0, 1 -> make("about", about(0, 11));
                case 2, 3 -> make("child", someChild(), about(0, 8));
                case 4 -> make("family", someFamily(), about(0, 4));
                case 5 -> make("day", oneIn(2) ? about(0, 39) : someDay(), about(0, 3));
                case 6, 7 -> make("meal", someChild(), about(0, Math.min(39, model.about(0))), about(0, 2));
                default -> make("setting", about(0, 1));
            }
        }
    }
}
