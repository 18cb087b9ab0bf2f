import java.util.ArrayList;
import java.util.EnumMap;
import java.util.List;
import java.util.Map;

/**
 * All that can be read of a calculator, and what it answers to further changes, so that what is hidden (the
 * room that is left, the limit of a recall) is seen, too. The calculator is used up by it.
 */
final class Snapshot {
    private static final int MOST_CALLS = 420;
    private static final Map<State, List<String>> UNTOUCHED = new EnumMap<>(State.class);

    private final TermReckoner x;
    private final List<String> lines = new ArrayList<>();

    private Snapshot(TermReckoner x) {
        this.x = x;
    }

    static List<String> of(TermReckoner x) {
        Snapshot s = new Snapshot(x);
        s.readOutput();
        s.readTerms();
        s.readPrisoner();
        s.readAwards();
        s.goOn();
        s.readOutput();
        Check.due("a snapshot stays within the calls of an object", s.lines.size() <= MOST_CALLS, true);
        return s.lines;
    }

    /** The call must throw the exception in the state, and must leave the state as it is. */
    static void refused(State state, String call, State.Use use, String exception) {
        TermReckoner x = state.make();
        Check.due(state + ": " + call, Check.outcome(() -> use.on(x)), exception);
        Check.due(state + ": changed by " + call, change(state, x), "");
    }

    /** The first difference between a calculator and an untouched one in the state; empty if there is none. */
    static String change(State state, TermReckoner x) {
        List<String> want = UNTOUCHED.computeIfAbsent(state, s -> of(s.make()));
        List<String> got = of(x);
        for (int i = 0; i < Math.min(got.size(), want.size()); i++) {
            if (!got.get(i).equals(want.get(i))) {
                return got.get(i) + ", without it: " + want.get(i);
            }
        }
        return got.size() == want.size() ? "" : "the number of answers";
    }

    private void read(String call, Check.Call made) {
        lines.add(call + " " + Check.outcome(made));
    }

    private void readOutput() {
        boolean more = true;
        for (int i = 0; more; i++) {
            int index = i;
            read("outputAt " + i, () -> x.outputAt(index));
            more = !lines.get(lines.size() - 1).endsWith("Exception");
        }
    }

    private void readTerms() {
        int terms = x.termCount();
        lines.add("termCount " + terms);
        for (int t = 0; t < terms; t++) {
            int term = t;
            read("kindOf " + t, () -> x.kindOf(term));
            read("lastReleaseWithout " + t, () -> x.lastReleaseWithout(term));
            boolean quashed = x.isQuashed(t);
            lines.add("isQuashed " + t + " " + quashed);
            if (!quashed) {
                readStandingTerm(t);
            }
        }
    }

    private void readStandingTerm(int term) {
        read("parentOf " + term, () -> x.parentOf(term));
        read("chainLength " + term, () -> x.chainLength(term));
        read("descendants " + term, () -> x.descendants(term));
        read("start " + term, () -> x.start(term));
        read("length " + term, () -> x.length(term));
        read("totalLength " + term, () -> x.totalLength(term));
        read("custodialPart " + term, () -> x.custodialPart(term));
        read("credit " + term, () -> x.credit(term));
        read("creditByMerging " + term, () -> x.creditByMerging(term));
        read("addedDays " + term, () -> x.addedDays(term));
        read("releaseDay " + term, () -> x.releaseDay(term));
        read("releaseDayByServing " + term, () -> x.releaseDayByServing(term));
        read("endDay " + term, () -> x.endDay(term));
    }

    private void readPrisoner() {
        read("today", x::today);
        read("status", x::status);
        read("lastRelease", x::lastRelease);
        read("lastEnd", x::lastEnd);
        read("decidingTerm", x::decidingTerm);
        read("termByRelease 0", () -> x.termByRelease(0));
        read("termByRelease 1", () -> x.termByRelease(1));
        read("daysInCustodyLeft", x::daysInCustodyLeft);
        read("recallCount", x::recallCount);
        read("recallEnd", x::recallEnd);
        read("lastReleaseWithAward 42", () -> x.lastReleaseWithAward(42));
        read("servedDays", x::servedDays);
        read("licenceDays", x::licenceDays);
        read("statusOn 0", () -> x.statusOn(0));
        read("isConsistent", () -> Check.bit(x.isConsistent()));
    }

    private void readAwards() {
        for (int a = 0; a < 8; a++) {
            int award = a;
            read("awardDays " + a, () -> x.awardDays(award));
            for (int t = 0; t < 4; t++) {
                int term = t;
                read("concerns " + a + " " + t, () -> Check.bit(x.concerns(award, term)));
            }
        }
    }

    /** Changes that show how much room is left, and what comes of the state later. */
    private void goOn() {
        int newest = x.termCount() - 1;
        lines.add("the newest term is " + newest);
        for (int i = 0; i < 9; i++) {
            read("addRemand " + i, () -> x.addRemand(newest, 0, 0));
            read("award " + i, () -> x.award(1));
        }
        read("recall 1", () -> x.recall(1));
        read("giveBack", () -> x.giveBack(0, 1));
        read("quash 0", () -> x.quash(0));
        read("recallEnd", x::recallEnd);
        for (int i = 0; i < 11; i++) {
            read("impose " + i, () -> x.impose(TermReckoner.HALF, 0, 9));
        }
        for (int days = 1; days <= 4; days++) {
            int step = days;
            read("advance " + days, () -> x.advance(step));
            read("status", x::status);
        }
        read("lastRelease", x::lastRelease);
        read("recall 0", () -> x.recall(0));
        read("lastEnd", x::lastEnd);
        read("servedDays", x::servedDays);
        read("licenceDays", x::licenceDays);
        read("writeHistory", x::writeHistory);
    }
}
