import java.util.ArrayList;
import java.util.List;

/**
 * A run of calls on a new object, with the answers that are due. What a call changed is seen by making
 * the run again on other new objects and asking these, so that no object gets more than its 512 calls.
 */
final class Run {
    static final int NONE = -1;
    static final Class<?> INDEX = IndexOutOfBoundsException.class;
    static final Class<?> ARGUMENT = IllegalArgumentException.class;
    static final Class<?> STATE = IllegalStateException.class;
    /** Stands for each of some values in the arguments of a call. */
    static final Object EACH = new Object();

    private static final int CALLS = 512;
    /** What is seen after a run takes up to 15 calls more of one object. */
    private static final int MOST_VIEWED = CALLS - 15;
    private static final int MOST_REMEMBERED = 14;
    private static final List<Call> QUESTIONS = questions();
    private static final List<List<Call>> QUESTIONS_OF_CHILDREN = questionsOfChildren();
    private static int wrong;

    private final String title;
    private final MealAccounts accounts = new MealAccounts();
    private final List<Call> made = new ArrayList<>();
    /** What was seen after so many calls. */
    private List<String> seen;
    private int seenAt = -1;

    Run(String title) {
        this.title = title;
    }

    /** Ends the program, with code 1 if an answer was not the one that is due. */
    static void end() {
        System.exit(wrong == 0 ? 0 : 1);
    }

    /** Makes a call, and tests its answer. */
    Run due(long answer, String name, Object... arguments) {
        make(String.valueOf(answer), Call.of(name, arguments), true);
        return this;
    }

    /** A call that answers, and changes nothing. */
    Run asked(long answer, String name, Object... arguments) {
        make(String.valueOf(answer), Call.of(name, arguments), false);
        return this;
    }

    /** The same for each of these values. */
    Run askedEach(long answer, int[] values, String name, Object... arguments) {
        for (int value : values) {
            asked(answer, name, with(value, arguments));
        }
        return this;
    }

    /** A call that throws exactly this, and changes nothing. */
    Run refused(Class<?> exception, String name, Object... arguments) {
        make(Call.thrown(exception), Call.of(name, arguments), false);
        return this;
    }

    /** The same for each of these values. */
    Run refusedEach(Class<?> exception, int[] values, String name, Object... arguments) {
        for (int value : values) {
            refused(exception, name, with(value, arguments));
        }
        return this;
    }

    private static Object[] with(int value, Object[] arguments) {
        Object[] filled = arguments.clone();
        for (int i = 0; i < filled.length; i++) {
            filled[i] = filled[i] == EACH ? (Object) value : filled[i];
        }
        return filled;
    }

    /** An action: it answers, one more state is remembered (at most 14), and undo takes it back. */
    Run did(long answer, String name, Object... arguments) {
        List<String> before = state(made);
        int remembered = remembered(made);
        due(answer, name, arguments);
        List<Call> undone = new ArrayList<>(made);
        undone.add(Call.of("undo"));
        same("is not undone", before, state(undone));
        int due = Math.min(remembered + 1, MOST_REMEMBERED);
        same("remembers another number of states", List.of("" + due), List.of("" + remembered(made)));
        return this;
    }

    /** Empties the text buffer, and appends these characters. */
    Run text(String characters) {
        call("clearText");
        for (int i = 0; i < characters.length(); i++) {
            due(i + 1, "append", (int) characters.charAt(i));
        }
        return this;
    }

    /** A call whose answer is tested elsewhere. */
    Run call(String name, Object... arguments) {
        Call call = Call.of(name, arguments);
        make(call);
        return this;
    }

    /** That this run has brought the same about as the other one. */
    Run like(Run other) {
        same("is not like " + other.title, view(other.made), view(made));
        return this;
    }

    /** That what there is now is the same as in the other run; texts, slots and remembered states aside. */
    Run stateLike(Run other) {
        same("has another state than " + other.title, state(other.made), state(made));
        return this;
    }

    /** A run of its own that tests the same. */
    Run another() {
        return new Run(title);
    }

    /** What the model answers to this behind the calls of this run. */
    long byModel(String name, Object... arguments) {
        Model model = new Model();
        for (Call call : made) {
            call.on(model);
        }
        return Long.parseLong(Call.of(name, arguments).on(model));
    }

    /** Another new object on which the same calls were made. */
    MealAccounts again() {
        return again(made);
    }

    private String make(Call call) {
        few(made, CALLS - 1);
        made.add(call);
        return call.on(accounts);
    }

    private void make(String due, Call call, boolean mayChange) {
        List<String> before = mayChange ? null : seen();
        String got = make(call);
        if (!got.equals(due)) {
            tell(call + " answered " + got + ", due is " + due);
        }
        if (!mayChange) {
            same("changed something", before, seen());
        }
    }

    private List<String> seen() {
        if (seenAt != made.size()) {
            seen = view(made);
            seenAt = made.size();
        }
        return seen;
    }

    private void same(String what, List<String> before, List<String> after) {
        for (int i = 0; i < before.size() || i < after.size(); i++) {
            String was = i < before.size() ? before.get(i) : "nothing";
            String is = i < after.size() ? after.get(i) : "nothing";
            if (!was.equals(is)) {
                tell(made.get(made.size() - 1) + " " + what + ": " + was + " became " + is);
                return;
            }
        }
    }

    private void tell(String fault) {
        wrong++;
        System.out.println(title + ", call " + made.size() + ": " + fault);
    }

    private static void few(List<Call> calls, int most) {
        if (calls.size() > most) {
            throw new AssertionError("too many calls: " + calls.size());
        }
    }

    /** A fault of a test that is no run. */
    static void fault(String fault) {
        wrong++;
        System.out.println(fault);
    }

    private static MealAccounts again(List<Call> calls) {
        MealAccounts accounts = new MealAccounts();
        for (Call call : calls) {
            call.on(accounts);
        }
        return accounts;
    }

    /** All that can be asked: the state, the text, the remembered states and the save slots. */
    private static List<String> view(List<Call> calls) {
        few(calls, MOST_VIEWED);
        List<String> view = state(calls);
        view.add("remembered: " + remembered(calls));
        MealAccounts undone = again(calls);
        for (int i = calls.size() + 13; i <= CALLS && i < calls.size() + 13 * 16; i += 13) {
            ask(undone, Call.of("undo"), view);
            askAbout(undone, view);
        }
        for (int slot = 0; slot <= 1; slot++) {
            MealAccounts restored = again(calls);
            ask(restored, Call.of("restore", slot), view);
            askAbout(restored, view);
        }
        MealAccounts loaded = again(calls);
        ask(loaded, Call.of("errorPosition"), view);
        ask(loaded, Call.of("load"), view);
        askAbout(loaded, view);
        ask(loaded, Call.of("clearText"), view);
        return view;
    }

    private static List<String> state(List<Call> calls) {
        Inquiry inquiry = new Inquiry(calls);
        for (Call question : QUESTIONS) {
            inquiry.ask(question);
        }
        for (List<Call> ofChild : QUESTIONS_OF_CHILDREN) {
            if (inquiry.ask(ofChild.get(0)).equals(Call.thrown(INDEX))) {
                break;
            }
            for (Call question : ofChild) {
                inquiry.ask(question);
            }
        }
        return inquiry.answers;
    }

    /** Asks question after question behind the same calls, on as many objects as that takes. */
    private static final class Inquiry {
        final List<String> answers = new ArrayList<>();
        private final List<Call> calls;
        private MealAccounts accounts;
        private int callsLeft;

        Inquiry(List<Call> calls) {
            few(calls, CALLS - 1);
            this.calls = calls;
        }

        String ask(Call question) {
            if (callsLeft == 0) {
                accounts = again(calls);
                callsLeft = CALLS - calls.size();
            }
            callsLeft--;
            return Run.ask(accounts, question, answers);
        }
    }

    private static int remembered(List<Call> calls) {
        MealAccounts accounts = again(calls);
        int count = 0;
        while (!Call.of("undo").on(accounts).equals(Call.thrown(STATE)) && count < 100) {
            count++;
        }
        return count;
    }

    private static void askAbout(MealAccounts accounts, List<String> answers) {
        for (int what = 0; what <= 11; what++) {
            ask(accounts, Call.of("about", what), answers);
        }
    }

    private static String ask(MealAccounts accounts, Call question, List<String> answers) {
        String answer = question.on(accounts);
        answers.add(question + " = " + answer);
        return answer;
    }

    private static List<Call> questions() {
        List<Call> questions = new ArrayList<>();
        for (int what = 0; what <= 11; what++) {
            questions.add(Call.of("about", what));
        }
        questions.add(Call.of("setting", 0));
        questions.add(Call.of("setting", 1));
        for (int f = 0; f < 5; f++) {
            for (int what = 0; what <= 4; what++) {
                questions.add(Call.of("family", f, what));
            }
        }
        for (int d = 0; d < 40; d++) {
            for (int what = 0; what <= 3; what++) {
                questions.add(Call.of("day", d, what));
            }
        }
        return questions;
    }

    private static List<List<Call>> questionsOfChildren() {
        List<List<Call>> questions = new ArrayList<>();
        for (int c = 0; c < 12; c++) {
            List<Call> ofChild = new ArrayList<>();
            for (int what = 0; what <= 8; what++) {
                ofChild.add(Call.of("child", c, what));
            }
            for (int d = 0; d < 40; d++) {
                for (int what = 0; what <= 2; what++) {
                    ofChild.add(Call.of("meal", c, d, what));
                }
            }
            questions.add(ofChild);
        }
        return questions;
    }
}
