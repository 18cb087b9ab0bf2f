import java.lang.reflect.Method;
import java.util.ArrayList;
import java.util.LinkedHashMap;
import java.util.List;
import java.util.Map;
import java.util.TreeSet;

/**
 * "A call that throws an exception changes nothing": every method with arguments at all edges in every state.
 * The questions change nothing either, whether they answer or throw; writeHistory alone changes the output.
 */
public final class RefusalTests {
    private static final int MIN = Integer.MIN_VALUE;
    private static final int MAX = Integer.MAX_VALUE;
    private static final int[] TERMS = {MIN, -1, 0, 1, 4, 9, 10, MAX};
    private static final int[] FEW_TERMS = {-1, 0, 4, 9, 10};
    private static final int[] FEW = {MIN, -1, 0, 1, MAX};

    /** The calls by their texts, those that are questions and those that are changes. */
    private static final Map<String, State.Use> questions = new LinkedHashMap<>();
    private static final Map<String, State.Use> changes = new LinkedHashMap<>();
    private static final TreeSet<String> thrown = new TreeSet<>();

    private interface One {
        long with(TermReckoner x, int value);
    }

    private interface Two {
        long with(TermReckoner x, int first, int second);
    }

    private interface Three {
        long with(TermReckoner x, int first, int second, int third);
    }

    public static void main(String[] args) {
        collectCalendar();
        collectQuestionsOfTerms();
        collectOtherQuestions();
        collectChanges();
        for (State state : State.values()) {
            questionsChangeNothing(state);
            refusedCallsChangeNothing(state);
        }
        eachExceptionWasThrown();
        aSnapshotSeesEachChange();
        Check.finish("RefusalTests");
    }

    private static void add(Map<String, State.Use> calls, String name, One call, int... values) {
        for (int v : values) {
            calls.put(name + "(" + v + ")", x -> call.with(x, v));
        }
    }

    private static void add(Map<String, State.Use> calls, String name, Two call, int[] firsts, int... seconds) {
        for (int first : firsts) {
            add(calls, name + " " + first, (x, second) -> call.with(x, first, second), seconds);
        }
    }

    private static void add(Map<String, State.Use> calls, String name, Three call, int[] firsts, int[] seconds,
            int... thirds) {
        for (int first : firsts) {
            add(calls, name + " " + first, (x, second, third) -> call.with(x, first, second, third), seconds, thirds);
        }
    }

    private static int[] list(int... values) {
        return values;
    }

    private static void collectCalendar() {
        int[] years = {1999, 2000, 2099, MAX};
        int[] months = {0, 1, 2, 13};
        add(questions, "dayNumber", TermReckoner::dayNumber, years, months, 0, 1, 29, 30, 32);
        add(questions, "dayNumberByMonths", TermReckoner::dayNumberByMonths, years, months, 0, 1, 29, 30, 32);
        int[] days = {MIN, -1, 0, 36524, 36525, MAX};
        add(questions, "yearOf", TermReckoner::yearOf, days);
        add(questions, "monthOf", TermReckoner::monthOf, days);
        add(questions, "dayOfMonth", TermReckoner::dayOfMonth, days);
        add(questions, "monthsAfter", TermReckoner::monthsAfter, days, MIN, -1, 0, 1, 60, 61, MAX);
    }

    private static void collectQuestionsOfTerms() {
        add(questions, "kindOf", TermReckoner::kindOf, TERMS);
        add(questions, "isQuashed", (x, t) -> Check.bit(x.isQuashed(t)), TERMS);
        add(questions, "parentOf", TermReckoner::parentOf, TERMS);
        add(questions, "chainLength", TermReckoner::chainLength, TERMS);
        add(questions, "descendants", TermReckoner::descendants, TERMS);
        add(questions, "start", TermReckoner::start, TERMS);
        add(questions, "length", TermReckoner::length, TERMS);
        add(questions, "totalLength", TermReckoner::totalLength, TERMS);
        add(questions, "custodialPart", TermReckoner::custodialPart, TERMS);
        add(questions, "credit", TermReckoner::credit, TERMS);
        add(questions, "creditByMerging", TermReckoner::creditByMerging, TERMS);
        add(questions, "addedDays", TermReckoner::addedDays, TERMS);
        add(questions, "releaseDay", TermReckoner::releaseDay, TERMS);
        add(questions, "releaseDayByServing", TermReckoner::releaseDayByServing, TERMS);
        add(questions, "endDay", TermReckoner::endDay, TERMS);
        add(questions, "lastReleaseWithout", TermReckoner::lastReleaseWithout, list(MIN, -1, 0, 1, 2, 3, 8, 9, 10));
        add(questions, "concerns", (x, a, t) -> Check.bit(x.concerns(a, t)), list(MIN, -1, 0, 7, 8), FEW_TERMS);
    }

    private static void collectOtherQuestions() {
        questions.put("today", TermReckoner::today);
        questions.put("termCount", TermReckoner::termCount);
        questions.put("status", TermReckoner::status);
        questions.put("lastRelease", TermReckoner::lastRelease);
        questions.put("lastEnd", TermReckoner::lastEnd);
        questions.put("decidingTerm", TermReckoner::decidingTerm);
        questions.put("daysInCustodyLeft", TermReckoner::daysInCustodyLeft);
        questions.put("recallCount", TermReckoner::recallCount);
        questions.put("recallEnd", TermReckoner::recallEnd);
        questions.put("servedDays", TermReckoner::servedDays);
        questions.put("licenceDays", TermReckoner::licenceDays);
        questions.put("isConsistent", x -> Check.bit(x.isConsistent()));
        add(questions, "termByRelease", TermReckoner::termByRelease, TERMS);
        add(questions, "awardDays", TermReckoner::awardDays, list(MIN, -1, 0, 7, 8, MAX));
        add(questions, "lastReleaseWithAward", TermReckoner::lastReleaseWithAward, list(MIN, -1, 0, 1, 42, 43, MAX));
        add(questions, "statusOn", TermReckoner::statusOn, list(MIN, -1, 0, 49, 50, 14608, 14609, MAX));
        add(questions, "outputAt", TermReckoner::outputAt, list(MIN, -1, 0, 1, 7, 8, MAX));
    }

    private static void collectChanges() {
        add(changes, "advance", TermReckoner::advance, list(MIN, -1, 0, 1, 400, 401, MAX));
        int[] kinds = {-1, 0, 3, 4};
        int[] months = {-1, 0, 60, 61};
        int[] days = {-1, 0, 99, 100};
        add(changes, "impose", TermReckoner::impose, kinds, months, days);
        add(changes, "impose", TermReckoner::impose, FEW, FEW, FEW);
        for (int parent : TERMS) {
            add(changes, "imposeConsecutive " + parent,
                    (x, kind, m, d) -> x.imposeConsecutive(parent, kind, m, d), list(-1, 3, 4), months, days);
        }
        add(changes, "addRemand", TermReckoner::addRemand, TERMS, list(-1, 0, 49, MAX), MIN, -1, 0, 49, 50, MAX);
        add(changes, "quash", TermReckoner::quash, TERMS);
        add(changes, "award", TermReckoner::award, list(MIN, -1, 0, 1, 42, 43, MAX));
        add(changes, "giveBack", TermReckoner::giveBack, list(MIN, -1, 0, 1, 7, 8, MAX), FEW);
        add(changes, "recall", TermReckoner::recall, list(MIN, -1, 0, 1, 28, 29, MAX));
    }

    private static void questionsChangeNothing(State state) {
        for (Map.Entry<String, State.Use> question : questions.entrySet()) {
            TermReckoner x = state.make();
            note(question.getKey(), Check.outcome(() -> question.getValue().on(x)));
            Check.due(state + ": changed by " + question.getKey(), Snapshot.change(state, x), "");
        }
    }

    private static void refusedCallsChangeNothing(State state) {
        for (Map.Entry<String, State.Use> change : changes.entrySet()) {
            TermReckoner x = state.make();
            String outcome = Check.outcome(() -> change.getValue().on(x));
            note(change.getKey(), outcome);
            if (outcome.endsWith("Exception")) {
                Check.due(state + ": changed by " + change.getKey(), Snapshot.change(state, x), "");
            }
        }
    }

    private static void note(String call, String outcome) {
        if (outcome.endsWith("Exception")) {
            thrown.add(call.split("[ (]")[0] + " " + outcome);
        }
    }

    /** Guards the tests: the calls above met each "Throws" of the document, and no other exception. */
    private static void eachExceptionWasThrown() {
        TreeSet<String> want = new TreeSet<>();
        for (Method m : TermReckoner.class.getDeclaredMethods()) {
            for (Class<?> exception : m.getExceptionTypes()) {
                want.add(m.getName() + " " + exception.getSimpleName());
            }
        }
        Check.due("exceptions", thrown.toString(), want.toString());
    }

    /** Guards the tests: what is taken is seen by a snapshot, so that a refused call's change would be, too. */
    private static void aSnapshotSeesEachChange() {
        List<String> unseen = new ArrayList<>();
        for (Map.Entry<String, State.Use> change : changes.entrySet()) {
            for (State state : State.values()) {
                TermReckoner x = state.make();
                boolean taken = !Check.outcome(() -> change.getValue().on(x)).endsWith("Exception");
                if (taken && Snapshot.change(state, x).isEmpty()) {
                    unseen.add(state + " " + change.getKey());
                }
            }
        }
        Check.due("changes that a snapshot does not see", unseen.toString(), "[]");
        TermReckoner x = State.NEW.make();
        x.advance(1);
        x.writeHistory();
        TermReckoner y = State.NEW.make();
        y.advance(1);
        Check.due("a snapshot sees the output", Snapshot.of(x).equals(Snapshot.of(y)), false);
    }
}
