import java.util.ArrayList;
import java.util.HashMap;
import java.util.List;
import java.util.Map;

/** Random runs of calls, always the same ones, whose answers must be those of {@link NaiveReckoner}. */
public final class ModelTests {
    private static final int RUNS = 1500;
    private static final int CALLS = 512;

    private final TermReckoner real = new TermReckoner();
    private final NaiveReckoner naive = new NaiveReckoner();
    private final List<String> made = new ArrayList<>();
    private final int style;
    private final boolean startsLate;
    private long seed;

    private static final Map<String, Integer> seen = new HashMap<>();

    private ModelTests(int run) {
        seed = run * 7919L + 1;
        style = run % 5;
        startsLate = run % 11 == 3;
    }

    public static void main(String[] args) {
        boolean same = true;
        for (int run = 0; run < RUNS && same; run++) {
            same = new ModelTests(run).runIsSame();
        }
        Check.due("all random runs answer as the model does", same, true);
        if (same) {
            everyCallWasReached();
        }
        Check.finish("ModelTests");
    }

    /** Guards the tests themselves: each call must have answered often, and thrown all it can throw. */
    private static void everyCallWasReached() {
        String[] outcomes = {
            "advance", "advance IllegalArgumentException", "advance IllegalStateException",
            "impose", "impose IllegalArgumentException", "impose IllegalStateException",
            "imposeConsecutive", "imposeConsecutive IndexOutOfBoundsException",
            "imposeConsecutive IllegalArgumentException", "imposeConsecutive IllegalStateException",
            "addRemand", "addRemand IndexOutOfBoundsException",
            "addRemand IllegalArgumentException", "addRemand IllegalStateException",
            "quash", "quash IndexOutOfBoundsException", "quash IllegalStateException",
            "award", "award IllegalArgumentException", "award IllegalStateException",
            "giveBack", "giveBack IndexOutOfBoundsException", "giveBack IllegalArgumentException",
            "recall", "recall IllegalArgumentException", "recall IllegalStateException",
            "recallEnd", "recallEnd NoSuchElementException",
            "lastRelease", "lastRelease NoSuchElementException",
            "termByRelease", "termByRelease IndexOutOfBoundsException",
            "lastReleaseWithAward", "lastReleaseWithAward IllegalArgumentException",
            "lastReleaseWithAward IllegalStateException",
            "lastReleaseWithout", "lastReleaseWithout IndexOutOfBoundsException",
            "lastReleaseWithout IllegalStateException", "lastReleaseWithout NoSuchElementException",
            "statusOn", "statusOn IllegalArgumentException", "outputAt", "outputAt IndexOutOfBoundsException",
        };
        for (String outcome : outcomes) {
            Check.due("runs reach often enough: " + outcome, seen.getOrDefault(outcome, 0) >= 50, true);
        }
    }

    private boolean runIsSame() {
        int early = startsLate ? 36 : 0;
        for (int i = 0; i < early; i++) {
            if (!same("advance", "(400)", () -> real.advance(400), () -> naive.advance(400))) {
                return false;
            }
        }
        for (int i = early; i < CALLS; i++) {
            boolean same = below(100) < (style == 4 ? 15 : 30) ? change() : ask();
            if (!same) {
                for (String call : made) {
                    System.out.println("  " + call);
                }
                return false;
            }
        }
        return true;
    }

    private boolean same(String name, String arguments, Check.Call realCall, Check.Call naiveCall) {
        String got = Check.outcome(realCall);
        String want = Check.outcome(naiveCall);
        boolean isThrown = want.endsWith("Exception");
        seen.merge(isThrown ? name + " " + want : name, 1, Integer::sum);
        made.add(name + arguments + " -> " + got);
        Check.due(name + arguments, got, want);
        return got.equals(want);
    }

    // ---- the calls

    private boolean change() {
        int which = below(100);
        if (which < 30) {
            return advance();
        } else if (which < 42) {
            return impose();
        } else if (which < 54) {
            return imposeConsecutive();
        } else if (which < 66) {
            return addRemand();
        } else if (which < 71) {
            return quash();
        } else if (which < 82) {
            return award();
        } else if (which < 89) {
            return giveBack();
        }
        return recall();
    }

    private boolean advance() {
        int toBoundary = naive.status() == 2 ? naive.daysInCustodyLeft() : 1 + below(60);
        int near = toBoundary - 1 + below(3);
        int days = below(40) == 0 ? oddly(400) : below(3) == 0 ? near : 1 + below(style == 0 ? 400 : 40);
        return same("advance", "(" + days + ")", () -> real.advance(days), () -> naive.advance(days));
    }

    private int months() {
        return below(20) == 0 ? oddly(60) : below(2) == 0 ? 0 : style == 0 ? below(61) : below(8);
    }

    private int days() {
        return below(20) == 0 ? oddly(99) : below(100);
    }

    private boolean impose() {
        int kind = below(20) == 0 ? oddly(3) : below(4);
        int months = months();
        int days = days();
        return same("impose", "(" + kind + ", " + months + ", " + days + ")",
                () -> real.impose(kind, months, days), () -> naive.impose(kind, months, days));
    }

    private boolean imposeConsecutive() {
        int parent = term();
        int kind = below(20) == 0 ? oddly(3) : below(4);
        int months = months();
        int days = days();
        return same("imposeConsecutive", "(" + parent + ", " + kind + ", " + months + ", " + days + ")",
                () -> real.imposeConsecutive(parent, kind, months, days),
                () -> naive.imposeConsecutive(parent, kind, months, days));
    }

    private boolean addRemand() {
        int term = below(3) == 0 ? term() : naive.termCount() - 1;
        int last = naive.today() - (below(20) == 0 ? below(3) - 1 : 1 + below(style == 1 ? 400 : 60));
        int first = last - (below(20) == 0 ? below(3) - 1 : below(style == 1 ? 600 : 40));
        return same("addRemand", "(" + term + ", " + first + ", " + last + ")",
                () -> real.addRemand(term, first, last), () -> naive.addRemand(term, first, last));
    }

    private boolean quash() {
        int term = term();
        return same("quash", "(" + term + ")", () -> real.quash(term), () -> naive.quash(term));
    }

    private boolean award() {
        int days = below(20) == 0 ? oddly(42) : 1 + below(42);
        return same("award", "(" + days + ")", () -> real.award(days), () -> naive.award(days));
    }

    private boolean giveBack() {
        int award = below(10) - (below(10) == 0 ? 1 : 0);
        int days = below(10) == 0 ? oddly(42) : 1 + below(30);
        return same("giveBack", "(" + award + ", " + days + ")",
                () -> real.giveBack(award, days), () -> naive.giveBack(award, days));
    }

    private boolean recall() {
        int days = below(20) == 0 ? oddly(28) : below(3) == 0 ? 0 : below(29);
        return same("recall", "(" + days + ")", () -> real.recall(days), () -> naive.recall(days));
    }

    private boolean ask() {
        switch (below(5)) {
            case 0:
                return askOfTerm(term());
            case 1:
                return askOfReleaseOrCredit(term());
            case 2:
                return askOfPrisoner();
            case 3:
                return askOfAwardsAndWhatIf();
            default:
                return askOfHistory();
        }
    }

    private boolean askOfTerm(int t) {
        String a = "(" + t + ")";
        switch (below(9)) {
            case 0:
                return same("kindOf", a, () -> real.kindOf(t), () -> naive.kindOf(t));
            case 1:
                return same("isQuashed", a, () -> Check.bit(real.isQuashed(t)), () -> Check.bit(naive.isQuashed(t)));
            case 2:
                return same("parentOf", a, () -> real.parentOf(t), () -> naive.parentOf(t));
            case 3:
                return same("chainLength", a, () -> real.chainLength(t), () -> naive.chainLength(t));
            case 4:
                return same("descendants", a, () -> real.descendants(t), () -> naive.descendants(t));
            case 5:
                return same("start", a, () -> real.start(t), () -> naive.start(t));
            case 6:
                return same("length", a, () -> real.length(t), () -> naive.length(t));
            case 7:
                return same("totalLength", a, () -> real.totalLength(t), () -> naive.totalLength(t));
            default:
                return same("custodialPart", a, () -> real.custodialPart(t), () -> naive.custodialPart(t));
        }
    }

    private boolean askOfReleaseOrCredit(int t) {
        String a = "(" + t + ")";
        switch (below(6)) {
            case 0:
                return same("credit", a, () -> real.credit(t), () -> naive.credit(t));
            case 1:
                return same("creditByMerging", a, () -> real.creditByMerging(t), () -> naive.credit(t));
            case 2:
                return same("addedDays", a, () -> real.addedDays(t), () -> naive.addedDays(t));
            case 3:
                return same("releaseDay", a, () -> real.releaseDay(t), () -> naive.releaseDay(t));
            case 4:
                return same("releaseDayByServing", a, () -> real.releaseDayByServing(t), () -> naive.releaseDay(t));
            default:
                return same("endDay", a, () -> real.endDay(t), () -> naive.endDay(t));
        }
    }

    private boolean askOfPrisoner() {
        int position = below(11) - 1;
        switch (below(9)) {
            case 0:
                return same("status", "()", real::status, naive::status);
            case 1:
                return same("lastRelease", "()", real::lastRelease, naive::lastRelease);
            case 2:
                return same("lastEnd", "()", real::lastEnd, naive::lastEnd);
            case 3:
                return same("decidingTerm", "()", real::decidingTerm, naive::decidingTerm);
            case 4:
                return same("termByRelease", "(" + position + ")",
                        () -> real.termByRelease(position), () -> naive.termByRelease(position));
            case 5:
                return same("daysInCustodyLeft", "()", real::daysInCustodyLeft, naive::daysInCustodyLeft);
            case 6:
                return same("recallCount", "()", real::recallCount, naive::recallCount);
            case 7:
                return same("recallEnd", "()", real::recallEnd, naive::recallEnd);
            default:
                return same("termCount", "()", real::termCount, naive::termCount);
        }
    }

    private boolean askOfAwardsAndWhatIf() {
        int award = below(9) - (below(10) == 0 ? 1 : 0);
        int term = term();
        int days = below(20) == 0 ? oddly(42) : 1 + below(42);
        switch (below(4)) {
            case 0:
                return same("awardDays", "(" + award + ")", () -> real.awardDays(award), () -> naive.awardDays(award));
            case 1:
                return same("concerns", "(" + award + ", " + term + ")",
                        () -> Check.bit(real.concerns(award, term)), () -> Check.bit(naive.concerns(award, term)));
            case 2:
                return same("lastReleaseWithAward", "(" + days + ")",
                        () -> real.lastReleaseWithAward(days), () -> naive.lastReleaseWithAward(days));
            default:
                return same("lastReleaseWithout", "(" + term + ")",
                        () -> real.lastReleaseWithout(term), () -> naive.lastReleaseWithout(term));
        }
    }

    private boolean askOfHistory() {
        int day = below(naive.today() + 3) - 1;
        int index = below(24) - 1;
        switch (below(7)) {
            case 0:
                return same("today", "()", real::today, naive::today);
            case 1:
                return same("servedDays", "()", real::servedDays, naive::servedDays);
            case 2:
                return same("licenceDays", "()", real::licenceDays, naive::licenceDays);
            case 3:
                return same("statusOn", "(" + day + ")", () -> real.statusOn(day), () -> naive.statusOn(day));
            case 4:
                return same("writeHistory", "()", real::writeHistory, naive::writeHistory);
            case 5:
                return same("outputAt", "(" + index + ")", () -> real.outputAt(index), () -> naive.outputAt(index));
            default:
                return same("isConsistent", "()", () -> Check.bit(real.isConsistent()), () -> 1L);
        }
    }

    // ---- numbers

    private int term() {
        return below(20) == 0 ? below(13) - 1 : below(Math.max(naive.termCount(), 1));
    }

    /** A number at or beyond an edge of the range that ends with a greatest number. */
    private int oddly(int greatest) {
        int[] odd = {0, 1, -1, greatest, greatest + 1, Integer.MAX_VALUE, Integer.MIN_VALUE};
        return odd[below(odd.length)];
    }

    private int below(int bound) {
        seed = seed * 6364136223846793005L + 1442695040888963407L;
        return (int) ((seed >>> 33) % bound);
    }
}
