/**
 * The boundary cases of awards, recalls, the status, quashing and the history: what is so while a day is after
 * the current one, and no longer so on that day; which of two days is the smaller one; what comes first of equals.
 */
public final class DayEdgeTests {
    private static final int HALF = TermReckoner.HALF;
    private static final int FULL = TermReckoner.FULL;
    private static final int DETENTION = TermReckoner.DETENTION;
    private static final int FREE = TermReckoner.FREE;
    private static final int ON_LICENCE = TermReckoner.ON_LICENCE;
    private static final int IN_CUSTODY = TermReckoner.IN_CUSTODY;

    public static void main(String[] args) {
        anAwardConcernsWhatIsNotReleased();
        anAwardConcernsByTheReleaseBeforeIt();
        anAwardConcernsAFollowerAlone();
        noAwardsAfterTheRelease();
        noFollowerAfterTheRelease();
        anAwardConcernsARunningRecall();
        anAwardDoesNotConcernAnotherRecall();
        aRecallEndsAtItsLimit();
        awardsEndAtTheLimit();
        aRecallRunsBeforeItsEnd();
        givingBackEndsARecall();
        theLimitFollowsASmallerLastEnd();
        theLimitOfARecallForDays();
        theLimitStaysWhenTheLastEndRises();
        statusDayByDay();
        statusOfATermThatIsAllCustody();
        aQuashedParentCanEndAFollower();
        advanceUpToAnEdge();
        daysInOneCallOrInMany();
        theHistoryOfARecall();
        theOrderOfEquals();
        whatAnAwardWouldDo();
        whatQuashingWouldDo();
        Check.finish("DayEdgeTests");
    }

    /** "whose release day is after the current day when the award is made" */
    private static void anAwardConcernsWhatIsNotReleased() {
        int[][] concerned = {{9, 1, 1, 1}, {10, 0, 1, 1}, {11, 0, 0, 1}};
        for (int[] c : concerned) {
            TermReckoner x = new TermReckoner();
            x.impose(HALF, 0, 20);
            x.impose(HALF, 0, 22);
            x.impose(HALF, 0, 24);
            x.advance(c[0]);
            x.award(1);
            for (int t = 0; t < 3; t++) {
                String what = "on day " + c[0] + " with release day " + (10 + t);
                Check.due("concerned " + what, Check.bit(x.concerns(0, t)), c[t + 1]);
                Check.due("added days " + what, x.addedDays(t), c[t + 1]);
                Check.due("release after an award " + what, x.releaseDay(t), 10 + t + c[t + 1]);
            }
        }
    }

    /** "the release day before the award" */
    private static void anAwardConcernsByTheReleaseBeforeIt() {
        TermReckoner x = new TermReckoner();
        x.impose(HALF, 0, 20);
        x.impose(FULL, 0, 40);
        x.advance(9);
        x.award(3);
        Check.due("release after the first award", x.releaseDay(0), 13);
        x.advance(3);
        x.award(2);
        Check.due("concerned on day 12", x.concerns(1, 0), true);
        Check.due("release after the second award", x.releaseDay(0), 15);
        x.advance(3);
        x.award(42);
        Check.due("concerned on day 15", x.concerns(2, 0), false);
        Check.due("release after the third award", x.releaseDay(0), 15);
        x.giveBack(0, 3);
        Check.due("an award concerns what it concerned", x.concerns(1, 0), true);
        Check.due("release without the first award's days", x.releaseDay(0), 12);
    }

    /** A parent can have released before its follower; the award counts once for the chain. */
    private static void anAwardConcernsAFollowerAlone() {
        int[][] cases = {{9, 1, 4}, {10, 0, 0}};
        for (int[] c : cases) {
            TermReckoner x = new TermReckoner();
            x.impose(HALF, 0, 20);
            x.imposeConsecutive(0, HALF, 0, 20);
            x.advance(c[0]);
            x.award(4);
            Check.due("concerns the parent on day " + c[0], Check.bit(x.concerns(0, 0)), c[1]);
            Check.due("concerns the follower on day " + c[0], x.concerns(0, 1), true);
            Check.due("added days of the parent", x.addedDays(0), c[2]);
            Check.due("added days of the follower", x.addedDays(1), 4);
        }
    }

    private static void noAwardsAfterTheRelease() {
        for (int day = 8; day <= 25; day++) {
            TermReckoner x = new TermReckoner();
            x.impose(HALF, 0, 20);
            x.advance(day);
            String award = day < 10 ? "0" : "IllegalStateException";
            String whatIf = day < 10 ? "11" : "IllegalStateException";
            Check.due("lastReleaseWithAward on day " + day, Check.outcome(() -> x.lastReleaseWithAward(1)), whatIf);
            Check.due("award on day " + day, Check.outcome(() -> x.award(1)), award);
        }
    }

    /** "or if the release day of the parent is not after the current day" */
    private static void noFollowerAfterTheRelease() {
        for (int day = 8; day <= 25; day++) {
            TermReckoner x = new TermReckoner();
            x.impose(HALF, 0, 20);
            x.advance(day);
            String want = day < 10 ? "1" : "IllegalStateException";
            Check.due("a follower on day " + day, Check.outcome(() -> x.imposeConsecutive(0, HALF, 0, 1)), want);
            TermReckoner y = new TermReckoner();
            y.impose(HALF, 0, 20);
            y.award(3);
            y.advance(day);
            want = day < 13 ? "1" : "IllegalStateException";
            Check.due("with an award, on day " + day, Check.outcome(() -> y.imposeConsecutive(0, HALF, 0, 1)), want);
        }
    }

    /** "If a recall is running when the award is made, the award concerns this recall, too." */
    private static void anAwardConcernsARunningRecall() {
        TermReckoner x = Scene.onLicence();
        x.recall(5);
        x.advance(4);
        x.award(3);
        Check.due("on the last day of the recall", x.recallEnd(), 58);
        Check.due("concerns the released term", x.concerns(0, 0), false);
        x.advance(4);
        Check.state("on the end of the recall", () -> x.award(1));
        TermReckoner y = Scene.onLicence();
        y.recall(20);
        y.impose(HALF, 0, 20);
        y.award(4);
        Check.due("the end of the recall", y.recallEnd(), 74);
        Check.due("and the release of the new term", y.releaseDay(1), 64);
        y.giveBack(0, 1);
        Check.due("one day is given back: the recall", y.recallEnd(), 73);
        Check.due("one day is given back: the term", y.releaseDay(1), 63);
        y.giveBack(0, 3);
        Check.due("all days are given back: the recall", y.recallEnd(), 70);
        Check.due("all days are given back: the term", y.releaseDay(1), 60);
    }

    /** Awards before a recall, after it, and in an earlier one do not move its end. */
    private static void anAwardDoesNotConcernAnotherRecall() {
        TermReckoner x = new TermReckoner();
        x.impose(HALF, 0, 20);
        x.award(2);
        x.advance(12);
        Check.due("an award before the recall", x.recall(3), 15);

        TermReckoner y = Scene.onLicence();
        y.recall(5);
        y.impose(FULL, 0, 20);
        y.advance(5);
        Check.missing("the recall is over", y::recallEnd);
        y.award(10);
        Check.missing("an award after the recall", y::recallEnd);
        Check.due("status", y.status(), IN_CUSTODY);

        TermReckoner z = Scene.onLicence();
        z.recall(5);
        z.award(2);
        z.advance(7);
        Check.due("an award of the recall before", z.recall(5), 62);
        z.award(1);
        Check.due("an award of this recall", z.recallEnd(), 63);
        z.giveBack(0, 2);
        Check.due("days of the award before", z.recallEnd(), 63);
    }

    /** "its limit or the day on which it was made plus its number of days ..., whichever is smaller": limit 99. */
    private static void aRecallEndsAtItsLimit() {
        int[][] cases = {
            {50, 1, 51}, {50, 28, 78}, {50, 0, 99}, {70, 28, 98}, {71, 28, 99}, {72, 28, 99}, {97, 1, 98},
            {97, 2, 99}, {97, 3, 99}, {98, 1, 99}, {98, 28, 99}, {98, 0, 99},
        };
        for (int[] c : cases) {
            TermReckoner x = Scene.onLicence();
            Scene.pass(x, c[0] - 50);
            String call = "recall(" + c[1] + ") on day " + c[0];
            Check.due(call, x.recall(c[1]), c[2]);
            Check.due("recallEnd after " + call, x.recallEnd(), c[2]);
            Check.due("daysInCustodyLeft after " + call, x.daysInCustodyLeft(), c[2] - c[0]);
            Check.due("the days of " + call, x.advance(50), c[2] - c[0]);
        }
        TermReckoner x = Scene.onLicence();
        x.advance(49);
        Check.due("status on the last end day", x.status(), FREE);
        Check.state("recall on the last end day", () -> x.recall(0));
        x.advance(1);
        Check.state("recall after the last end day", () -> x.recall(0));
    }

    private static void awardsEndAtTheLimit() {
        TermReckoner x = Scene.onLicence();
        x.recall(10);
        x.award(38);
        Check.due("one day before the limit", x.recallEnd(), 98);
        x.award(1);
        Check.due("on the limit", x.recallEnd(), 99);
        x.award(1);
        Check.due("beyond the limit", x.recallEnd(), 99);
        x.giveBack(2, 1);
        Check.due("on the limit again", x.recallEnd(), 99);
        x.giveBack(1, 1);
        Check.due("before the limit again", x.recallEnd(), 98);
        TermReckoner y = Scene.onLicence();
        y.recall(0);
        y.award(42);
        Check.due("a recall until the end", y.recallEnd(), 99);
        y.giveBack(0, 42);
        Check.due("a recall until the end, without the award", y.recallEnd(), 99);
    }

    /** "The latest recall is running if its end is after the current day" */
    private static void aRecallRunsBeforeItsEnd() {
        for (int days : new int[] {5, 0}) {
            int end = days == 0 ? 99 : 55;
            TermReckoner x = Scene.onLicence();
            x.recall(days);
            x.advance(end - 51);
            Check.due("recallEnd on the day before it", x.recallEnd(), end);
            Check.due("status on the day before it", x.status(), IN_CUSTODY);
            Check.due("daysInCustodyLeft on the day before it", x.daysInCustodyLeft(), 1);
            Check.state("recall on the day before it", () -> x.recall(1));
            x.advance(1);
            Check.missing("recallEnd on that day", x::recallEnd);
            Check.due("status on that day", x.status(), days == 0 ? FREE : ON_LICENCE);
            Check.due("daysInCustodyLeft on that day", x.daysInCustodyLeft(), 0);
        }
    }

    private static void givingBackEndsARecall() {
        TermReckoner x = Scene.onLicence();
        x.recall(3);
        x.award(5);
        x.advance(3);
        x.giveBack(0, 4);
        Check.due("the end is tomorrow", x.recallEnd(), 54);
        Check.due("status", x.status(), IN_CUSTODY);
        x.giveBack(0, 1);
        Check.missing("the end is today", x::recallEnd);
        Check.due("status on the end", x.status(), ON_LICENCE);
        Check.due("another recall", x.recall(1), 54);
        Check.due("recallCount", x.recallCount(), 2);
    }

    /** "whenever the last end day becomes smaller than the limit, the limit becomes the last end day" */
    private static void theLimitFollowsASmallerLastEnd() {
        for (int end = 48; end <= 53; end++) {
            TermReckoner x = Scene.at(30);
            x.impose(HALF, 0, 98);
            x.addRemand(0, 0, 28);
            x.impose(HALF, 0, end - 30);
            x.advance(20);
            Check.due("the limit of the longer term", x.recall(0), 99);
            x.quash(0);
            String recallEnd = end > 50 ? Integer.toString(end) : "NoSuchElementException";
            Check.due("recallEnd with last end day " + end, Check.outcome(x::recallEnd), recallEnd);
            Check.due("status with last end day " + end, x.status(), end > 50 ? IN_CUSTODY : FREE);
            x.impose(HALF, 0, 90);
            x.quash(1);
            Check.due("recallEnd with another last end", Check.outcome(x::recallEnd), recallEnd);
        }
    }

    private static void theLimitOfARecallForDays() {
        for (int end = 58; end <= 62; end++) {
            TermReckoner x = Scene.at(30);
            x.impose(HALF, 0, 98);
            x.addRemand(0, 0, 28);
            x.impose(HALF, 0, end - 30);
            x.advance(20);
            Check.due("for ten days", x.recall(10), 60);
            x.quash(0);
            Check.due("recallEnd with last end day " + end, x.recallEnd(), Math.min(60, end));
            x.award(42);
            Check.due("recallEnd with an award and last end day " + end, x.recallEnd(), end);
        }
    }

    /** The last end day rises with a new term, and when a parent with more credit than length is quashed. */
    private static void theLimitStaysWhenTheLastEndRises() {
        TermReckoner x = Scene.onLicence();
        x.recall(0);
        x.impose(FULL, 0, 99);
        Check.due("lastEnd with a new term", x.lastEnd(), 149);
        Check.due("recallEnd with a new term", x.recallEnd(), 99);
        x.quash(1);
        Check.due("recallEnd without it", x.recallEnd(), 99);

        TermReckoner y = Scene.at(30);
        y.impose(HALF, 0, 4);
        y.imposeConsecutive(0, HALF, 0, 60);
        y.addRemand(0, 0, 19);
        Check.due("end of the chain", y.endDay(1), 74);
        y.advance(20);
        Check.due("the limit", y.recall(0), 74);
        y.quash(0);
        Check.due("end of the follower alone", y.endDay(1), 90);
        Check.due("the limit stays", y.recallEnd(), 74);
    }

    /** Custody before the release day, licence from it on, freedom from the end day on. */
    private static void statusDayByDay() {
        TermReckoner x = new TermReckoner();
        x.impose(HALF, 0, 4);
        int[] want = {IN_CUSTODY, IN_CUSTODY, ON_LICENCE, ON_LICENCE, FREE, FREE};
        for (int day = 0; day < want.length; day++) {
            Check.due("status on day " + day, x.status(), want[day]);
            Check.due("days in custody on day " + day, x.daysInCustodyLeft(), Math.max(2 - day, 0));
            x.advance(1);
            Check.due("statusOn(" + day + ")", x.statusOn(day), want[day]);
        }
        Check.due("servedDays", x.servedDays(), 2);
        Check.due("licenceDays", x.licenceDays(), 2);
    }

    private static void statusOfATermThatIsAllCustody() {
        for (int kind : new int[] {FULL, DETENTION}) {
            TermReckoner x = new TermReckoner();
            x.impose(kind, 0, 30);
            x.advance(29);
            Check.due("on day 29", x.status(), IN_CUSTODY);
            x.advance(1);
            Check.due("on day 30, without licence", x.status(), FREE);
            Check.due("history", Scene.history(x), "c30");
        }
        TermReckoner x = new TermReckoner();
        x.impose(DETENTION, 0, 31);
        x.advance(30);
        Check.due("a licence day", x.status(), ON_LICENCE);
        x.advance(1);
        Check.due("and no more", x.status(), FREE);
        TermReckoner y = Scene.at(10);
        y.impose(FULL, 0, 5);
        y.addRemand(0, 0, 4);
        Check.due("all is credited", y.status(), FREE);
        Check.due("no day is left", y.daysInCustodyLeft(), 0);
        Check.state("no award", () -> y.award(1));
        Check.state("no recall", () -> y.recall(0));
    }

    /** The follower starts on the day on which its parent started, and so can be over at once. */
    private static void aQuashedParentCanEndAFollower() {
        int[][] cases = {{4, FREE}, {5, FREE}, {6, IN_CUSTODY}};
        for (int[] c : cases) {
            TermReckoner x = new TermReckoner();
            x.impose(FULL, 0, 10);
            x.advance(5);
            x.imposeConsecutive(0, FULL, 0, c[0]);
            Check.due("release before", x.releaseDay(1), 10 + c[0]);
            Check.due("followers", x.quash(0), 1);
            Check.due("start after", x.start(1), 0);
            Check.due("release after", x.releaseDay(1), c[0]);
            Check.due("status after", x.status(), c[1]);
            String want = c[1] == FREE ? "IllegalStateException" : "2";
            Check.due("a follower of it", Check.outcome(() -> x.imposeConsecutive(1, FULL, 0, 1)), want);
        }
    }

    /** Custody up to day 5, licence up to day 10. */
    private static void advanceUpToAnEdge() {
        int[][] cases = {{1, 1, 0}, {4, 4, 0}, {5, 5, 0}, {6, 5, 1}, {9, 5, 4}, {10, 5, 5}, {11, 5, 5}, {400, 5, 5}};
        for (int[] c : cases) {
            TermReckoner x = new TermReckoner();
            x.impose(HALF, 0, 10);
            Check.due("advance(" + c[0] + ")", x.advance(c[0]), c[1]);
            Check.due("servedDays after " + c[0], x.servedDays(), c[1]);
            Check.due("licenceDays after " + c[0], x.licenceDays(), c[2]);
            Check.due("today after " + c[0], x.today(), c[0]);
            Check.due("the last day that passed", x.statusOn(c[0] - 1),
                    c[0] <= 5 ? IN_CUSTODY : c[0] <= 10 ? ON_LICENCE : FREE);
            Check.due("isConsistent", x.isConsistent(), true);
        }
    }

    /** "increases the current day by 1 as often as the parameter states" */
    private static void daysInOneCallOrInMany() {
        for (State state : State.values()) {
            TermReckoner one = state.make();
            if (one.today() > 14000) {
                continue;
            }
            TermReckoner many = state.make();
            int served = one.advance(150);
            int found = 0;
            for (int day = 0; day < 150; day++) {
                boolean inCustody = many.status() == IN_CUSTODY;
                int more = many.advance(1);
                Check.due(state + ": a day in custody is served", more, Check.bit(inCustody));
                found += more;
            }
            Check.due(state + ": served days", found, served);
            Check.due(state + ": history", Scene.history(many), Scene.history(one));
        }
    }

    private static void theHistoryOfARecall() {
        TermReckoner x = Scene.onLicence();
        x.advance(10);
        x.recall(1);
        Check.due("one day of recall", x.advance(3), 1);
        x.recall(2);
        Check.due("two days of recall", x.advance(2), 2);
        x.recall(0);
        Check.due("up to the end", x.advance(100), 34);
        Check.due("history", Scene.history(x), "f30 c20 l10 c1 l2 c36 f66");
        Check.due("servedDays", x.servedDays(), 57);
        Check.due("licenceDays", x.licenceDays(), 12);
    }

    /** By the release day, then by the end day, then by the number; decidingTerm is the first of the last. */
    private static void theOrderOfEquals() {
        TermReckoner x = new TermReckoner();
        x.impose(HALF, 0, 40);
        x.impose(HALF, 0, 40);
        x.impose(FULL, 0, 20);
        x.impose(FULL, 0, 20);
        x.impose(HALF, 0, 39);
        x.impose(FULL, 0, 19);
        x.impose(FULL, 0, 21);
        x.impose(HALF, 0, 42);
        int[] want = {5, 2, 3, 4, 0, 1, 6, 7};
        for (int position = 0; position < want.length; position++) {
            Check.due("termByRelease(" + position + ")", x.termByRelease(position), want[position]);
        }
        Check.due("decidingTerm: 6 and 7 have the same release day", x.decidingTerm(), 6);
        x.quash(6);
        Check.due("decidingTerm without 6", x.decidingTerm(), 7);
        x.quash(7);
        Check.due("decidingTerm of five terms", x.decidingTerm(), 0);
        x.quash(0);
        Check.due("decidingTerm of four terms", x.decidingTerm(), 1);
    }

    /** "what lastRelease would return right after an award" */
    private static void whatAnAwardWouldDo() {
        State[] states = {State.CUSTODY, State.RECALL_FOR_DAYS, State.RECALL_UNTIL_THE_END, State.LAST_DAY_IN_CUSTODY};
        for (State state : states) {
            for (int days = 1; days <= 42; days++) {
                TermReckoner x = state.make();
                int want = x.lastReleaseWithAward(days);
                x.award(days);
                Check.due(state + ": lastReleaseWithAward(" + days + ")", want, x.lastRelease());
            }
        }
    }

    /** "what lastRelease would return right after a term was quashed" */
    private static void whatQuashingWouldDo() {
        for (State state : State.values()) {
            int terms = state.make().termCount();
            for (int t = 0; t < terms; t++) {
                TermReckoner x = state.make();
                int term = t;
                String want = Check.outcome(() -> x.lastReleaseWithout(term));
                String got = Check.outcome(() -> {
                    x.quash(term);
                    return x.lastRelease();
                });
                Check.due(state + ": lastReleaseWithout(" + t + ")", want, got);
            }
        }
    }
}
