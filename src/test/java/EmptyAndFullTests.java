/** The empty and the full states of the document: nothing there yet, nothing there any more, and no room left. */
public final class EmptyAndFullTests {
    private static final int HALF = TermReckoner.HALF;
    private static final int FULL = TermReckoner.FULL;
    private static final int FREE = TermReckoner.FREE;
    private static final int ON_LICENCE = TermReckoner.ON_LICENCE;
    private static final int IN_CUSTODY = TermReckoner.IN_CUSTODY;

    public static void main(String[] args) {
        aNewObjectIsEmpty();
        theFirstOfEverything();
        allQuashedIsAsGoodAsNone();
        withoutTermsTheLastEndIsDay0();
        theTenthTermIsTheLast();
        quashingMakesNoRoomForTerms();
        tenTermsByBothCalls();
        theEighthRemandPeriodIsTheLast();
        remandPeriodsOfSeveralDays();
        theEighthAwardIsTheLast();
        givingBackMakesNoRoomForAwards();
        theSixthRecallIsTheLast();
        aRecallThatEndedAtOnceCounts();
        theLastCurrentDay();
        theLastOf512Calls();
        theStatesOfTheTests();
        Check.finish("EmptyAndFullTests");
    }

    /** "Creates a calculator without terms on day 0." */
    private static void aNewObjectIsEmpty() {
        TermReckoner x = new TermReckoner();
        Check.due("today", x.today(), 0);
        Check.due("termCount", x.termCount(), 0);
        Check.due("status", x.status(), FREE);
        Check.missing("lastRelease", x::lastRelease);
        Check.missing("lastEnd", x::lastEnd);
        Check.missing("decidingTerm", x::decidingTerm);
        Check.index("termByRelease(0)", () -> x.termByRelease(0));
        Check.due("daysInCustodyLeft", x.daysInCustodyLeft(), 0);
        Check.due("recallCount", x.recallCount(), 0);
        Check.missing("recallEnd", x::recallEnd);
        Check.index("awardDays(0)", () -> x.awardDays(0));
        Check.index("concerns(0, 0)", () -> Check.bit(x.concerns(0, 0)));
        Check.state("lastReleaseWithAward(1)", () -> x.lastReleaseWithAward(1));
        Check.index("lastReleaseWithout(0)", () -> x.lastReleaseWithout(0));
        Check.due("servedDays", x.servedDays(), 0);
        Check.due("licenceDays", x.licenceDays(), 0);
        Check.argument("statusOn(0)", () -> x.statusOn(0));
        Check.index("outputAt(0), nothing is written", () -> x.outputAt(0));
        Check.due("writeHistory", x.writeHistory(), 0);
        Check.index("outputAt(0), nothing is in it", () -> x.outputAt(0));
        Check.due("isConsistent", x.isConsistent(), true);
        Check.index("quash(0)", () -> x.quash(0));
        Check.index("giveBack(0, 1)", () -> x.giveBack(0, 1));
        Check.state("award(1)", () -> x.award(1));
        Check.state("recall(1)", () -> x.recall(1));
    }

    /** Terms and awards are "numbered from 0", and the current day "is 0 at first". */
    private static void theFirstOfEverything() {
        TermReckoner x = new TermReckoner();
        Check.due("the first term", x.impose(HALF, 0, 60), 0);
        Check.due("its start", x.start(0), 0);
        Check.due("the second term", x.imposeConsecutive(0, HALF, 0, 20), 1);
        Check.due("the first award", x.award(3), 0);
        Check.due("the second award", x.award(4), 1);
        Check.due("the first day", x.advance(1), 1);
        Check.due("statusOn(0)", x.statusOn(0), IN_CUSTODY);
        Check.due("the third term, with a remand day", x.impose(HALF, 0, 60), 2);
        Check.due("a served day is no remand day", x.addRemand(2, 0, 0), 0);
    }

    /** "if all terms are quashed or there are none" */
    private static void allQuashedIsAsGoodAsNone() {
        TermReckoner x = State.ALL_QUASHED.make();
        Check.due("termCount", x.termCount(), 2);
        Check.due("status", x.status(), FREE);
        Check.missing("lastRelease", x::lastRelease);
        Check.missing("lastEnd", x::lastEnd);
        Check.missing("decidingTerm", x::decidingTerm);
        Check.index("termByRelease(0)", () -> x.termByRelease(0));
        Check.due("daysInCustodyLeft", x.daysInCustodyLeft(), 0);
        Check.state("award(1)", () -> x.award(1));
        Check.state("lastReleaseWithAward(1)", () -> x.lastReleaseWithAward(1));
        Check.state("recall(0)", () -> x.recall(0));
        Check.due("isConsistent", x.isConsistent(), true);
        Check.due("the award is there", x.awardDays(0), 9);
        Check.due("and can be given back", x.giveBack(0, 9), 0);
        Check.due("the days are free", x.advance(7), 0);
        Check.due("history", Scene.history(x), "f10 c5 f7");
        Check.due("the next term", x.impose(FULL, 0, 5), 2);
        Check.due("lastRelease", x.lastRelease(), 27);
        Check.due("decidingTerm", x.decidingTerm(), 2);
        Check.due("termByRelease(0)", x.termByRelease(0), 2);
        Check.missing("without the only term", () -> x.lastReleaseWithout(2));
    }

    /** The last end day "is 0 if there are none": the limit of the recall becomes 0, too, for good. */
    private static void withoutTermsTheLastEndIsDay0() {
        TermReckoner x = Scene.onLicence();
        x.recall(20);
        x.quash(0);
        Check.missing("recallEnd", x::recallEnd);
        Check.due("status", x.status(), FREE);
        Check.due("daysInCustodyLeft", x.daysInCustodyLeft(), 0);
        x.impose(HALF, 0, 40);
        Check.missing("recallEnd with another term", x::recallEnd);
        Check.due("daysInCustodyLeft of that term", x.daysInCustodyLeft(), 20);
        Check.due("recallCount", x.recallCount(), 1);
    }

    /** "There are at most 10 terms" */
    private static void theTenthTermIsTheLast() {
        TermReckoner x = new TermReckoner();
        for (int t = 0; t < 9; t++) {
            Check.due("impose", x.impose(FULL, 1, 0), t);
        }
        Check.due("nine terms", x.termCount(), 9);
        Check.due("the tenth", x.impose(FULL, 1, 0), 9);
        Check.due("ten terms", x.termCount(), 10);
        Check.state("impose, an eleventh", () -> x.impose(FULL, 1, 0));
        Check.state("imposeConsecutive, an eleventh", () -> x.imposeConsecutive(9, FULL, 1, 0));
        Check.due("ten terms still", x.termCount(), 10);
        Check.due("the last position", x.termByRelease(9), 9);
        Check.index("no eleventh position", () -> x.termByRelease(10));
        Check.due("descendants(9)", x.descendants(9), 0);
    }

    /** "if there are 10 terms (quashed ones included)"; "a term that is quashed keeps its number" */
    private static void quashingMakesNoRoomForTerms() {
        TermReckoner x = new TermReckoner();
        for (int t = 0; t < 10; t++) {
            x.impose(FULL, 1, 0);
        }
        for (int t = 0; t < 9; t++) {
            x.quash(t);
            Check.state("impose with " + (t + 1) + " quashed", () -> x.impose(FULL, 1, 0));
            Check.state("imposeConsecutive with them", () -> x.imposeConsecutive(9, FULL, 1, 0));
        }
        Check.due("the tenth keeps its number", x.decidingTerm(), 9);
        x.quash(9);
        Check.state("impose with all quashed", () -> x.impose(FULL, 1, 0));
        Check.state("imposeConsecutive with all quashed", () -> x.imposeConsecutive(9, FULL, 1, 0));
        Check.due("termCount", x.termCount(), 10);
        TermReckoner y = State.ALL_QUASHED.make();
        Check.due("a new term after two quashed ones", y.impose(HALF, 1, 0), 2);
        Check.due("the kind of term 0", y.kindOf(0), FULL);
        Check.due("term 0 is quashed", y.isQuashed(0), true);
        Check.due("term 2 is not", y.isQuashed(2), false);
    }

    private static void tenTermsByBothCalls() {
        TermReckoner x = new TermReckoner();
        x.impose(FULL, 0, 99);
        for (int t = 1; t < 10; t++) {
            Check.due("imposeConsecutive", x.imposeConsecutive(t - 1, FULL, 0, 99), t);
        }
        Check.state("impose, an eleventh", () -> x.impose(FULL, 0, 99));
        Check.state("imposeConsecutive, an eleventh", () -> x.imposeConsecutive(9, FULL, 0, 99));
        Check.due("the longest chain", x.chainLength(9), 10);
        Check.due("its first term has nine descendants", x.descendants(0), 9);
        Check.due("the last has none", x.descendants(9), 0);
        Check.due("the total length", x.totalLength(9), 990);
        for (int t = 0; t < 9; t++) {
            Check.due("one followed " + t, x.quash(t), 1);
            Check.due("the chain of 9 is shorter", x.chainLength(9), 9 - t);
        }
        Check.due("none followed 9", x.quash(9), 0);

        TermReckoner star = new TermReckoner();
        star.impose(FULL, 0, 99);
        for (int t = 1; t < 10; t++) {
            star.imposeConsecutive(0, FULL, 0, t);
        }
        Check.due("nine descendants of one parent", star.descendants(0), 9);
        Check.due("nine terms were consecutive to it", star.quash(0), 9);
        Check.due("the shortest one is first", star.termByRelease(0), 1);
        Check.due("the longest one is last", star.termByRelease(8), 9);
        Check.index("nine positions", () -> star.termByRelease(9));
    }

    /** "There are at most 8 remand periods", "those of quashed terms included" */
    private static void theEighthRemandPeriodIsTheLast() {
        TermReckoner x = Scene.at(100);
        x.impose(FULL, 3, 0);
        for (int i = 0; i < 8; i++) {
            Check.due("period " + i, x.addRemand(0, 10 * i, 10 * i), i + 1);
        }
        Check.state("a ninth", () -> x.addRemand(0, 90, 90));
        Check.state("a ninth that lies in another one", () -> x.addRemand(0, 10, 10));
        Check.due("credit", x.credit(0), 8);
        Check.due("credit by merging", x.creditByMerging(0), 8);
        x.impose(FULL, 3, 0);
        Check.state("a ninth, of another term", () -> x.addRemand(1, 90, 90));
        x.quash(0);
        Check.state("a ninth, the others are of a quashed term", () -> x.addRemand(1, 90, 90));
        x.advance(1);
        x.impose(FULL, 3, 0);
        Check.state("a ninth, on another day", () -> x.addRemand(2, 90, 90));
        Check.due("credit of the others", x.credit(1) + x.credit(2), 0);
    }

    /** "they can overlap": eight times the same days, and eight that have one day in common. */
    private static void remandPeriodsOfSeveralDays() {
        TermReckoner x = Scene.at(100);
        x.impose(FULL, 3, 0);
        TermReckoner y = Scene.at(100);
        y.impose(FULL, 3, 0);
        for (int i = 0; i < 8; i++) {
            Check.due("the same days", x.addRemand(0, 30, 39), 10);
            Check.due("one day in common", y.addRemand(0, 50 - 2 * i, 50 + 3 * i), 5 * i + 1);
        }
        Check.due("merging the same days", x.creditByMerging(0), 10);
        Check.due("merging those with one day in common", y.creditByMerging(0), 36);
    }

    /** "There are at most 8 awards" */
    private static void theEighthAwardIsTheLast() {
        TermReckoner x = new TermReckoner();
        x.impose(HALF, 60, 99);
        for (int a = 0; a < 8; a++) {
            int award = a;
            Check.index("awardDays(" + a + ") before", () -> x.awardDays(award));
            Check.due("award " + a, x.award(42), a);
        }
        Check.state("a ninth", () -> x.award(42));
        Check.due("the last one", x.awardDays(7), 42);
        Check.index("there is no ninth", () -> x.awardDays(8));
        Check.due("added", x.addedDays(0), 8 * 42);
        Check.due("a ninth would add its days", x.lastReleaseWithAward(42) - x.lastRelease(), 42);
    }

    private static void givingBackMakesNoRoomForAwards() {
        TermReckoner x = new TermReckoner();
        x.impose(HALF, 60, 99);
        for (int a = 0; a < 8; a++) {
            x.award(2);
        }
        for (int a = 0; a < 8; a++) {
            Check.due("all is given back", x.giveBack(a, 2), 0);
        }
        Check.state("a ninth", () -> x.award(1));
        Check.due("added", x.addedDays(0), 0);
        Check.due("concerns", x.concerns(7, 0), true);
    }

    /** "There are at most 6 recalls" */
    private static void theSixthRecallIsTheLast() {
        TermReckoner x = Scene.onLicence();
        for (int r = 0; r < 6; r++) {
            Check.due("recalls before", x.recallCount(), r);
            Check.due("recall", x.recall(1), 51 + r);
            x.advance(1);
        }
        Check.due("six recalls", x.recallCount(), 6);
        Check.due("status", x.status(), ON_LICENCE);
        Check.state("a seventh for a day", () -> x.recall(1));
        Check.state("a seventh until the end", () -> x.recall(0));
        x.quash(0);
        x.impose(HALF, 0, 10);
        x.advance(5);
        Check.due("on licence for another term", x.status(), ON_LICENCE);
        Check.state("a seventh for another term", () -> x.recall(1));
        Check.due("recallCount", x.recallCount(), 6);
        Check.due("history", Scene.history(x), "f30 c31");
    }

    private static void aRecallThatEndedAtOnceCounts() {
        TermReckoner x = new TermReckoner();
        for (int r = 0; r < 7; r++) {
            x.impose(HALF, 0, 2);
            x.advance(1);
            Check.due("on licence", x.status(), ON_LICENCE);
            if (r < 6) {
                Check.due("recall on the last day", x.recall(0), r + 2);
            } else {
                Check.state("a seventh", () -> x.recall(0));
            }
            x.quash(r);
            Check.missing("recallEnd without terms", x::recallEnd);
            Check.due("recallCount", x.recallCount(), Math.min(r + 1, 6));
        }
        Check.due("history", Scene.history(x), "c7");
    }

    /** The current day is "at most 14609". */
    private static void theLastCurrentDay() {
        TermReckoner x = State.LAST_DAY_ON_LICENCE.make();
        Check.due("today", x.today(), 14609);
        Check.state("advance(1)", () -> x.advance(1));
        Check.due("a term of the last day", x.impose(HALF, 60, 99), 1);
        Check.due("its start", x.start(1), 14609);
        Check.due("a remand period up to the day before", x.addRemand(1, 14607, 14608), 0);
        Check.argument("but not of the last day itself", () -> x.addRemand(1, 14608, 14609));
        Check.due("the day before the term 0 was imposed", x.addRemand(1, 14599, 14600), 1);
        Check.due("an award on the last day", x.award(42), 0);
        Check.due("status", x.status(), IN_CUSTODY);
        Check.due("daysInCustodyLeft goes beyond the last day", x.daysInCustodyLeft(), x.lastRelease() - 14609);
        x.quash(1);
        Check.due("a recall on the last day", x.recall(28), 14618);
        Check.due("history", Scene.history(x), "f14600 c9");
        Check.due("statusOn the day before", x.statusOn(14608), IN_CUSTODY);
        Check.argument("statusOn the last day itself", () -> x.statusOn(14609));
    }

    /** "An object is used for at most 512 calls after it has been made": the last one answers as any other. */
    private static void theLastOf512Calls() {
        TermReckoner days = new TermReckoner();
        days.impose(HALF, 12, 99);
        for (int call = 2; call <= 511; call += 2) {
            Check.due("status before the call " + call, days.status(), call / 2 <= 233 ? IN_CUSTODY : ON_LICENCE);
            Check.due("call " + call, days.advance(1), call / 2 <= 233 ? 1 : 0);
        }
        Check.due("the last call: servedDays after 255 days", days.servedDays(), 233);

        TermReckoner output = new TermReckoner();
        output.advance(400);
        for (int call = 2; call <= 511; call++) {
            Check.due("call " + call + ": writeHistory", output.writeHistory(), 4);
        }
        Check.due("the last call: outputAt(3)", output.outputAt(3), '0');

        TermReckoner questions = Scene.at(400);
        questions.impose(FULL, 12, 0);
        questions.addRemand(0, 100, 199);
        for (int call = 4; call <= 511; call++) {
            Check.due("call " + call + ": isConsistent", questions.isConsistent(), true);
        }
        Check.due("the last call: releaseDay", questions.releaseDay(0), 400 + 365 - 100);
    }

    /** What the other tests rely on. */
    private static void theStatesOfTheTests() {
        stateIs(State.NEW, 0, FREE, 0, 0, "");
        stateIs(State.WITHOUT_TERMS, 100, FREE, 0, 0, "f100");
        stateIs(State.CUSTODY, 110, IN_CUSTODY, 5, 0, "f100 c10");
        stateIs(State.LICENCE, 50, ON_LICENCE, 2, 0, "f30 c20");
        stateIs(State.RECALL_FOR_DAYS, 53, IN_CUSTODY, 1, 1, "f30 c23");
        stateIs(State.RECALL_UNTIL_THE_END, 50, IN_CUSTODY, 2, 1, "f30 c20");
        stateIs(State.FREE_AGAIN, 110, FREE, 1, 0, "f30 c20 l49 f11");
        stateIs(State.ALL_QUASHED, 15, FREE, 2, 0, "f10 c5");
        stateIs(State.FULL_IN_CUSTODY, 62, IN_CUSTODY, 10, 6, "f30 c21 l1 c1 l1 c1 l1 c1 l1 c1 l1 c1 l1");
        stateIs(State.FULL_ON_LICENCE, 102, ON_LICENCE, 10, 6, "f30 c21 l1 c1 l1 c1 l1 c1 l1 c1 l1 c1 l1 c38 l2");
        stateIs(State.LAST_DAY_FREE, 14609, FREE, 0, 0, "f14609");
        stateIs(State.LAST_DAY_IN_CUSTODY, 14609, IN_CUSTODY, 1, 0, "f14600 c9");
        stateIs(State.LAST_DAY_ON_LICENCE, 14609, ON_LICENCE, 1, 0, "f14600 c9");
        Check.due("the recall for days", State.RECALL_FOR_DAYS.make().recallEnd(), 63);
        Check.due("the recall until the end", State.RECALL_UNTIL_THE_END.make().recallEnd(), 90);
        TermReckoner x = State.CUSTODY.make();
        Check.due("release of 0", x.releaseDay(0), 133);
        Check.due("release of 1", x.releaseDay(1), 147);
        Check.due("release of 2", x.releaseDay(2), 177);
        Check.due("end of 2", x.endDay(2), 237);
        Check.due("release of 3", x.releaseDay(3), 125);
        Check.due("end of 3", x.endDay(3), 125);
    }

    private static void stateIs(State state, int today, int status, int terms, int recalls, String history) {
        TermReckoner x = state.make();
        Check.due(state + ": today", x.today(), today);
        Check.due(state + ": status", x.status(), status);
        Check.due(state + ": termCount", x.termCount(), terms);
        Check.due(state + ": recallCount", x.recallCount(), recalls);
        Check.due(state + ": isConsistent", x.isConsistent(), true);
        Check.due(state + ": history", Scene.history(x), history);
    }
}
