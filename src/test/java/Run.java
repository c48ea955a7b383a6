import java.util.ArrayList;
import java.util.List;

/**
 * A run of calls on a new object, with the answers that are due. What a call changed is seen by making
 * the run again on other new objects and asking these, so that no object gets more than its 512 calls.
 */
final class Run {
    static final int NONE = -1;
    static final Class<?> INDEX = IndexOutOfBoundsException.class;
    static final Class<?> ARGUMENT = IllegalArgumentException.class;
    static final Class<?> STATE = IllegalStateException.class;

    private static final int CALLS = 512;
    /** Fewer than an object allows, so that some questions can follow. */
    private static final int MOST_MADE = 400;
    private static final int MOST_REMEMBERED = 14;
    private static final List<Call> QUESTIONS = questions();
    private static int wrong;

    private final String title;
    private final MealAccounts accounts = new MealAccounts();
    private final List<Call> made = new ArrayList<>();

    Run(String title) {
        this.title = title;
    }

    /** Ends the program, with code 1 if an answer was not the one that is due. */
    static void end() {
        System.exit(wrong == 0 ? 0 : 1);
    }

    /** Makes a call, and tests its answer. */
    Run due(long answer, String name, Object... arguments) {
        make(String.valueOf(answer), Call.of(name, arguments));
        return this;
    }

    /** A call that answers, and changes nothing. */
    Run asked(long answer, String name, Object... arguments) {
        List<String> before = view(made);
        due(answer, name, arguments);
        same("changed something", before, view(made));
        return this;
    }

    /** A call that throws exactly this, and changes nothing. */
    Run refused(Class<?> exception, String name, Object... arguments) {
        List<String> before = view(made);
        make(Call.thrown(exception), Call.of(name, arguments));
        same("changed something", before, view(made));
        return this;
    }

    /** An action: it answers, one more state is remembered (at most 14), and undo takes it back. */
    Run did(long answer, String name, Object... arguments) {
        List<String> before = state(made);
        int remembered = remembered(made);
        due(answer, name, arguments);
        List<Call> undone = new ArrayList<>(made);
        undone.add(Call.of("undo"));
        same("is not undone", before, state(undone));
        int due = Math.min(remembered + 1, MOST_REMEMBERED);
        same("remembers another number of states", List.of("" + due), List.of("" + remembered(made)));
        return this;
    }

    /** Empties the text buffer, and appends these characters. */
    Run text(String characters) {
        call("clearText");
        for (int i = 0; i < characters.length(); i++) {
            due(i + 1, "append", (int) characters.charAt(i));
        }
        return this;
    }

    /** A call whose answer is tested elsewhere. */
    Run call(String name, Object... arguments) {
        Call call = Call.of(name, arguments);
        make(call);
        return this;
    }

    /** That this run has brought the same about as the other one. */
    Run like(Run other) {
        same("is not like " + other.title, view(other.made), view(made));
        return this;
    }

    /** That what there is now is the same as in the other run; texts, slots and remembered states aside. */
    Run stateLike(Run other) {
        same("has another state than " + other.title, state(other.made), state(made));
        return this;
    }

    /** Another new object on which the same calls were made. */
    MealAccounts again() {
        return again(made);
    }

    private String make(Call call) {
        if (made.size() >= MOST_MADE) {
            throw new AssertionError(title + " has too many calls");
        }
        made.add(call);
        return call.on(accounts);
    }

    private void make(String due, Call call) {
        String got = make(call);
        if (!got.equals(due)) {
            tell(call + " answered " + got + ", due is " + due);
        }
    }

    private void same(String what, List<String> before, List<String> after) {
        for (int i = 0; i < before.size() || i < after.size(); i++) {
            String was = i < before.size() ? before.get(i) : "nothing";
            String is = i < after.size() ? after.get(i) : "nothing";
            if (!was.equals(is)) {
                tell(made.get(made.size() - 1) + " " + what + ": " + was + " became " + is);
                return;
            }
        }
    }

    private void tell(String fault) {
        wrong++;
        System.out.println(title + ", call " + made.size() + ": " + fault);
    }

    private static MealAccounts again(List<Call> calls) {
        MealAccounts accounts = new MealAccounts();
        for (Call call : calls) {
            call.on(accounts);
        }
        return accounts;
    }

    /** All that can be asked: the state, the text, the remembered states and the save slots. */
    private static List<String> view(List<Call> calls) {
        List<String> view = state(calls);
        view.add("remembered: " + remembered(calls));
        MealAccounts undone = again(calls);
        for (int i = calls.size() + 13; i <= CALLS && i < calls.size() + 13 * 16; i += 13) {
            ask(undone, Call.of("undo"), view);
            askAbout(undone, view);
        }
        for (int slot = 0; slot <= 1; slot++) {
            MealAccounts restored = again(calls);
            ask(restored, Call.of("restore", slot), view);
            askAbout(restored, view);
        }
        MealAccounts loaded = again(calls);
        ask(loaded, Call.of("errorPosition"), view);
        ask(loaded, Call.of("load"), view);
        askAbout(loaded, view);
        ask(loaded, Call.of("clearText"), view);
        return view;
    }

    private static List<String> state(List<Call> calls) {
        List<String> answers = new ArrayList<>();
        int asked = 0;
        while (asked < QUESTIONS.size()) {
            MealAccounts accounts = again(calls);
            for (int made = calls.size(); made < CALLS && asked < QUESTIONS.size(); made++) {
                ask(accounts, QUESTIONS.get(asked), answers);
                asked++;
            }
        }
        return answers;
    }

    private static int remembered(List<Call> calls) {
        MealAccounts accounts = again(calls);
        int count = 0;
        while (!Call.of("undo").on(accounts).equals(Call.thrown(STATE)) && count < 100) {
            count++;
        }
        return count;
    }

    private static void askAbout(MealAccounts accounts, List<String> answers) {
        for (int what = 0; what <= 11; what++) {
            ask(accounts, Call.of("about", what), answers);
        }
    }

    private static void ask(MealAccounts accounts, Call question, List<String> answers) {
        answers.add(question + " = " + question.on(accounts));
    }

    private static List<Call> questions() {
        List<Call> questions = new ArrayList<>();
        for (int what = 0; what <= 11; what++) {
            questions.add(Call.of("about", what));
        }
        questions.add(Call.of("setting", 0));
        questions.add(Call.of("setting", 1));
        for (int f = 0; f < 5; f++) {
            for (int what = 0; what <= 4; what++) {
                questions.add(Call.of("family", f, what));
            }
        }
        for (int d = 0; d < 40; d++) {
            for (int what = 0; what <= 3; what++) {
                questions.add(Call.of("day", d, what));
            }
        }
        for (int c = 0; c < 12; c++) {
            for (int what = 0; what <= 8; what++) {
                questions.add(Call.of("child", c, what));
            }
            for (int d = 0; d < 40; d++) {
                for (int what = 0; what <= 2; what++) {
                    questions.add(Call.of("meal", c, d, what));
                }
            }
        }
        return questions;
    }
}
