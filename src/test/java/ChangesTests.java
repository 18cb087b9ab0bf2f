/** Promises 8 to 16: time, and the calls that change the terms, the awards and the recalls. */
public final class ChangesTests {
    private static final int HALF = TermReckoner.HALF;
    private static final int FULL = TermReckoner.FULL;
    private static final int MIN = Integer.MIN_VALUE;
    private static final int MAX = Integer.MAX_VALUE;

    public static void main(String[] args) {
        promises8And9Time();
        promise9CountsServedDays();
        promise9LastDay();
        promise10Impose();
        promises10And11TenTerms();
        promise11ImposeConsecutive();
        promise11ReleaseOfTheParent();
        promise12AddRemand();
        promise12WrongDays();
        promise12WrongState();
        promise12EightPeriods();
        promise13Quash();
        promise13QuashOfAMiddleTerm();
        promise13QuashInBothOrders();
        promise13LosesCreditAndAwards();
        promise14Award();
        promise14EightAwards();
        promise15GiveBack();
        promise16RecallForDays();
        promise16RecallUntilTheEnd();
        promise16WrongCalls();
        promise16SixRecalls();
        promise16LimitFollowsTheLastEnd();
        Check.finish("ChangesTests");
    }

    private static void promises8And9Time() {
        TermReckoner x = new TermReckoner();
        Check.due("today at first", x.today(), 0);
        Check.due("advance(1)", x.advance(1), 0);
        Check.due("today after 1", x.today(), 1);
        Check.due("advance(400)", x.advance(400), 0);
        Check.due("today after 401", x.today(), 401);
        for (int days : new int[] {0, -1, 401, MIN, MAX}) {
            Check.argument("advance(" + days + ")", () -> x.advance(days));
        }
        Check.due("today after wrong calls", x.today(), 401);
    }

    private static void promise9CountsServedDays() {
        TermReckoner x = new TermReckoner();
        x.impose(HALF, 0, 10);
        Check.due("4 of 5 custodial days", x.advance(4), 4);
        Check.due("the last custodial day and 2 on licence", x.advance(3), 1);
        Check.due("no custodial day left", x.advance(20), 0);
        Check.due("servedDays", x.servedDays(), 5);
        Check.due("licenceDays", x.licenceDays(), 5);
        x.impose(FULL, 0, 3);
        Check.due("custody, then free at once", x.advance(10), 3);
        Check.due("history", Scene.history(x), "c5 l5 f17 c3 f7");
    }

    private static void promise9LastDay() {
        TermReckoner x = Scene.at(14600);
        Check.state("advance(10) on day 14600", () -> x.advance(10));
        Check.due("today after it", x.today(), 14600);
        Check.due("advance(9) on day 14600", x.advance(9), 0);
        Check.due("the last current day", x.today(), 14609);
        Check.state("advance(1) on day 14609", () -> x.advance(1));
        Check.argument("advance(0) on day 14609", () -> x.advance(0));
        Check.argument("advance(401) on day 14609", () -> x.advance(401));
        Check.due("history", Scene.history(x), "f14609");
    }

    private static void promise10Impose() {
        TermReckoner x = Scene.at(7);
        Check.due("the first term", x.impose(HALF, 0, 1), 0);
        Check.due("the second term", x.impose(3, 60, 99), 1);
        Check.due("start", x.start(1), 7);
        Check.due("kind", x.kindOf(1), 3);
        int[][] wrong = {
            {-1, 1, 1}, {4, 1, 1}, {0, -1, 1}, {0, 61, 1}, {0, 1, -1}, {0, 1, 100}, {0, 0, 0},
            {MIN, 1, 1}, {MAX, 1, 1}, {0, MAX, 1}, {0, MIN, 1}, {0, 1, MAX}, {0, 1, MIN},
        };
        for (int[] w : wrong) {
            String arguments = "(" + w[0] + ", " + w[1] + ", " + w[2] + ")";
            Check.argument("impose" + arguments, () -> x.impose(w[0], w[1], w[2]));
            Check.argument("imposeConsecutive with " + arguments, () -> x.imposeConsecutive(0, w[0], w[1], w[2]));
        }
        Check.due("termCount", x.termCount(), 2);
        Check.due("a month alone", x.impose(HALF, 1, 0), 2);
    }

    private static void promises10And11TenTerms() {
        TermReckoner x = new TermReckoner();
        for (int t = 0; t < 10; t++) {
            Check.due("term " + t, x.impose(FULL, 0, 50), t);
        }
        x.quash(3);
        Check.state("impose, an eleventh", () -> x.impose(FULL, 0, 50));
        Check.argument("impose, an eleventh, and wrong", () -> x.impose(FULL, 0, 0));
        Check.state("imposeConsecutive, an eleventh", () -> x.imposeConsecutive(0, FULL, 0, 50));
        Check.argument("imposeConsecutive, an eleventh, and wrong", () -> x.imposeConsecutive(0, FULL, 61, 50));
        Check.index("imposeConsecutive, an eleventh, to none", () -> x.imposeConsecutive(10, FULL, 0, 50));
        Check.due("termCount", x.termCount(), 10);
    }

    private static void promise11ImposeConsecutive() {
        TermReckoner x = Scene.at(10);
        Check.index("no parent", () -> x.imposeConsecutive(0, HALF, 1, 0));
        x.impose(FULL, 1, 0);
        Check.due("the second term", x.imposeConsecutive(0, HALF, 1, 5), 1);
        Check.due("parent", x.parentOf(1), 0);
        Check.due("start of 11 January and 31 days", x.start(1), 41);
        Check.index("parent 2", () -> x.imposeConsecutive(2, HALF, 1, 0));
        Check.index("parent -1", () -> x.imposeConsecutive(-1, HALF, 1, 0));
        Check.index("parent min", () -> x.imposeConsecutive(MIN, HALF, 1, 0));
        Check.index("no parent and a wrong kind", () -> x.imposeConsecutive(2, 4, 1, 0));
        x.quash(0);
        Check.state("a quashed parent", () -> x.imposeConsecutive(0, HALF, 1, 0));
        Check.argument("a quashed parent and a wrong kind", () -> x.imposeConsecutive(0, 4, 1, 0));
        Check.due("termCount", x.termCount(), 2);
    }

    private static void promise11ReleaseOfTheParent() {
        TermReckoner x = new TermReckoner();
        x.impose(HALF, 0, 10);
        x.advance(4);
        Check.due("the day before the release", x.imposeConsecutive(0, HALF, 0, 10), 1);
        Check.due("it starts after the whole parent", x.start(1), 10);
        x.advance(1);
        Check.state("on the day of the release", () -> x.imposeConsecutive(0, HALF, 0, 10));
        Check.due("the second one is not released yet", x.imposeConsecutive(1, HALF, 0, 10), 2);
        x.advance(100);
        Check.state("long after it", () -> x.imposeConsecutive(1, HALF, 0, 10));
    }

    private static void promise12AddRemand() {
        TermReckoner x = Scene.at(100);
        x.impose(FULL, 0, 50);
        Check.due("10 days", x.addRemand(0, 10, 19), 10);
        Check.due("5 of them again and 5 others", x.addRemand(0, 15, 24), 15);
        Check.due("the day before the current one", x.addRemand(0, 99, 99), 16);
        x.imposeConsecutive(0, FULL, 0, 1);
        Check.due("of the chain, one day more", x.addRemand(1, 24, 25), 17);
        Check.due("of the parent as before", x.credit(0), 16);
        Check.due("no more than the total length", x.addRemand(1, 0, 99), 51);
        x.quash(0);
        Check.due("after the parent is gone", x.credit(1), 1);

        TermReckoner y = new TermReckoner();
        y.impose(FULL, 0, 10);
        y.advance(20);
        y.impose(FULL, 0, 30);
        Check.due("served days do not count", y.addRemand(1, 0, 14), 5);
        Check.due("licence and free days do", y.addRemand(1, 5, 19), 10);
    }

    private static void promise12WrongDays() {
        TermReckoner x = Scene.at(100);
        Check.index("addRemand without terms", () -> x.addRemand(0, 1, 2));
        x.impose(FULL, 0, 50);
        int[][] wrong = {{-1, 5}, {5, 4}, {99, 100}, {100, 100}, {MIN, 5}, {5, MAX}, {MAX, MIN}, {0, -1}};
        for (int[] w : wrong) {
            String arguments = "(0, " + w[0] + ", " + w[1] + ")";
            Check.argument("addRemand" + arguments, () -> x.addRemand(0, w[0], w[1]));
        }
        Check.index("no such term and wrong days", () -> x.addRemand(1, 5, 4));
        Check.index("term -1", () -> x.addRemand(-1, 1, 2));
        Check.due("credit after wrong calls", x.credit(0), 0);
        Check.argument("on day 0 no day lies before", () -> {
            TermReckoner y = new TermReckoner();
            y.impose(FULL, 0, 5);
            return y.addRemand(0, 0, 0);
        });
    }

    private static void promise12WrongState() {
        TermReckoner x = Scene.at(100);
        x.impose(FULL, 0, 50);
        x.quash(0);
        Check.state("a quashed term", () -> x.addRemand(0, 1, 2));
        Check.argument("a quashed term and wrong days", () -> x.addRemand(0, 2, 1));
        x.impose(FULL, 0, 50);
        x.advance(1);
        Check.state("the day after", () -> x.addRemand(1, 1, 2));
        Check.argument("the day after, and wrong days", () -> x.addRemand(1, 1, 101));
        Check.due("credit", x.credit(1), 0);

        TermReckoner y = new TermReckoner();
        y.impose(FULL, 0, 20);
        y.advance(5);
        y.imposeConsecutive(0, FULL, 0, 20);
        y.quash(0);
        Check.due("it starts on day 0 now", y.start(1), 0);
        Check.due("but was imposed today", y.addRemand(1, 0, 4), 0);
        y.impose(FULL, 0, 20);
        Check.due("a term of its own starts today", y.start(2), 5);
    }

    private static void promise12EightPeriods() {
        TermReckoner x = Scene.at(100);
        x.impose(FULL, 0, 50);
        x.impose(FULL, 0, 50);
        for (int i = 0; i < 4; i++) {
            x.addRemand(0, i, i);
            x.addRemand(1, i, i);
        }
        Check.state("a ninth period", () -> x.addRemand(0, 50, 60));
        x.quash(1);
        Check.state("those of quashed terms count", () -> x.addRemand(0, 50, 60));
        Check.argument("a ninth, and wrong", () -> x.addRemand(0, 60, 50));
        Check.due("credit", x.credit(0), 4);
    }

    private static void promise13Quash() {
        TermReckoner x = Scene.at(3);
        Check.index("quash without terms", () -> x.quash(0));
        x.impose(FULL, 0, 10);
        x.advance(2);
        x.imposeConsecutive(0, FULL, 0, 20);
        x.imposeConsecutive(0, HALF, 0, 30);
        x.imposeConsecutive(1, FULL, 0, 40);
        Check.due("two followed it", x.quash(0), 2);
        Check.due("quashed", x.isQuashed(0), true);
        Check.missing("1 is independent", () -> x.parentOf(1));
        Check.due("1 starts where 0 did", x.start(1), 3);
        Check.due("2 starts where 0 did", x.start(2), 3);
        Check.due("3 follows 1 still", x.parentOf(3), 1);
        Check.due("start of 3", x.start(3), 23);
        Check.state("quashed already", () -> x.quash(0));
        Check.index("quash(4)", () -> x.quash(4));
        Check.index("quash(-1)", () -> x.quash(-1));
        Check.due("one followed 1", x.quash(1), 1);
        Check.due("3 starts where 1 did", x.start(3), 3);
        Check.due("none followed 3", x.quash(3), 0);
        Check.due("none followed 2", x.quash(2), 0);
        Check.due("status", x.status(), TermReckoner.FREE);
        Check.due("termCount", x.termCount(), 4);
    }

    private static void promise13QuashOfAMiddleTerm() {
        TermReckoner x = new TermReckoner();
        x.impose(FULL, 1, 0);
        x.imposeConsecutive(0, FULL, 1, 0);
        x.imposeConsecutive(1, FULL, 1, 0);
        Check.due("a month from 1 March", x.length(2), 31);
        Check.due("one followed 1", x.quash(1), 1);
        Check.due("parent of 2", x.parentOf(2), 0);
        Check.due("start of 2", x.start(2), 31);
        Check.due("a month from 1 February", x.length(2), 29);
        Check.due("chain of 2", x.chainLength(2), 2);
        x.quash(2);
        Check.due("a quashed term followed 0", x.quash(0), 0);
    }

    /** Terms 2 and 3 follow 1, and 4 follows 2. */
    private static TermReckoner branches() {
        TermReckoner x = Scene.at(7);
        x.impose(FULL, 0, 50);
        x.advance(3);
        x.imposeConsecutive(0, FULL, 0, 40);
        x.imposeConsecutive(1, FULL, 0, 30);
        x.advance(3);
        x.imposeConsecutive(1, FULL, 0, 20);
        x.imposeConsecutive(2, FULL, 0, 10);
        return x;
    }

    private static void promise13QuashInBothOrders() {
        TermReckoner x = branches();
        Check.due("two followed 1", x.quash(1), 2);
        Check.due("parent of 2", x.parentOf(2), 0);
        Check.due("parent of 3", x.parentOf(3), 0);
        Check.due("parent of 4 stays", x.parentOf(4), 2);
        Check.due("start of 2", x.start(2), 57);
        Check.due("start of 3", x.start(3), 57);
        Check.due("start of 4", x.start(4), 87);
        Check.due("total length of 4", x.totalLength(4), 90);
        Check.due("two follow 0 now", x.quash(0), 2);
        startsWhereTheFirstDid(x);

        TermReckoner y = branches();
        Check.due("one followed 0", y.quash(0), 1);
        Check.missing("1 is independent", () -> y.parentOf(1));
        Check.due("start of 1", y.start(1), 7);
        Check.due("start of 4 after 1 and 2", y.start(4), 77);
        Check.due("two follow 1 still", y.quash(1), 2);
        startsWhereTheFirstDid(y);
    }

    private static void startsWhereTheFirstDid(TermReckoner x) {
        Check.missing("2 is independent", () -> x.parentOf(2));
        Check.missing("3 is independent", () -> x.parentOf(3));
        Check.due("start of 2 where 0 did", x.start(2), 7);
        Check.due("start of 3 where 0 did", x.start(3), 7);
        Check.due("start of 4 after 2", x.start(4), 37);
        Check.due("chain of 4", x.chainLength(4), 2);
        Check.due("release of 4", x.releaseDay(4), 47);
    }

    private static void promise13LosesCreditAndAwards() {
        TermReckoner x = Scene.at(100);
        x.impose(FULL, 0, 50);
        x.addRemand(0, 0, 9);
        x.award(5);
        x.imposeConsecutive(0, HALF, 0, 60);
        Check.due("release with the credit and the award of 0", x.releaseDay(1), 100 + 80 - 10 + 5);
        x.quash(0);
        Check.due("release without", x.releaseDay(1), 100 + 30);
        Check.due("the award concerns 0 still", x.concerns(0, 0), true);
        Check.due("addedDays", x.addedDays(1), 0);
    }

    private static void promise14Award() {
        TermReckoner x = new TermReckoner();
        Check.state("award of a free prisoner", () -> x.award(5));
        Check.argument("award(0) of a free prisoner", () -> x.award(0));
        x.impose(HALF, 0, 10);
        x.impose(HALF, 0, 80);
        x.advance(5);
        Check.due("the first award", x.award(42), 0);
        Check.due("it does not concern a term that released today", x.concerns(0, 0), false);
        Check.due("it concerns the other one", x.concerns(0, 1), true);
        Check.due("release of 1", x.releaseDay(1), 80);
        for (int days : new int[] {0, -1, 43, MIN, MAX}) {
            Check.argument("award(" + days + ")", () -> x.award(days));
        }
        Check.due("the second award", x.award(1), 1);
        x.advance(75);
        Check.state("award after the release", () -> x.award(1));

        TermReckoner y = Scene.onLicence();
        Check.state("award on licence", () -> y.award(1));
        y.recall(5);
        Check.due("award in a recall", y.award(3), 0);
        Check.due("it concerns no term", y.concerns(0, 0), false);
        Check.due("but the recall", y.recallEnd(), 58);
    }

    private static void promise14EightAwards() {
        TermReckoner x = new TermReckoner();
        x.impose(HALF, 60, 0);
        for (int a = 0; a < 8; a++) {
            Check.due("award " + a, x.award(1), a);
        }
        Check.state("a ninth award", () -> x.award(1));
        Check.argument("a ninth award, and wrong", () -> x.award(43));
        Check.due("added", x.addedDays(0), 8);
        Check.due("what a ninth would do", x.lastReleaseWithAward(2), 914 + 8 + 2);
    }

    private static void promise15GiveBack() {
        TermReckoner x = new TermReckoner();
        Check.index("giveBack without awards", () -> x.giveBack(0, 1));
        x.impose(HALF, 0, 60);
        x.award(20);
        x.award(3);
        Check.due("5 of 20", x.giveBack(0, 5), 15);
        Check.due("added", x.addedDays(0), 18);
        Check.due("release", x.releaseDay(0), 48);
        Check.argument("more than are left", () -> x.giveBack(0, 16));
        Check.argument("0", () -> x.giveBack(0, 0));
        Check.argument("-1", () -> x.giveBack(0, -1));
        Check.argument("min", () -> x.giveBack(0, MIN));
        Check.argument("max", () -> x.giveBack(0, MAX));
        Check.index("award 2", () -> x.giveBack(2, 1));
        Check.index("award -1", () -> x.giveBack(-1, 1));
        Check.index("no award and wrong days", () -> x.giveBack(2, 0));
        Check.due("all that are left", x.giveBack(0, 15), 0);
        Check.argument("none is left", () -> x.giveBack(0, 1));
        Check.due("the other award", x.awardDays(1), 3);
        Check.due("release with the other award", x.releaseDay(0), 33);
        x.advance(31);
        Check.due("status on day 31", x.status(), TermReckoner.IN_CUSTODY);
        x.giveBack(1, 2);
        Check.due("status after giving back", x.status(), TermReckoner.ON_LICENCE);
    }

    private static void promise16RecallForDays() {
        TermReckoner x = Scene.onLicence();
        Check.due("status before", x.status(), TermReckoner.ON_LICENCE);
        Check.due("recall(28)", x.recall(28), 78);
        Check.due("status", x.status(), TermReckoner.IN_CUSTODY);
        Check.state("a recall in a recall", () -> x.recall(5));
        x.award(7);
        Check.due("end with the award", x.recallEnd(), 85);
        x.award(42);
        Check.due("not after the limit", x.recallEnd(), 99);
        x.giveBack(1, 40);
        Check.due("with 7 and 2 days", x.recallEnd(), 87);
        x.advance(36);
        x.giveBack(0, 1);
        Check.due("over at once", x.status(), TermReckoner.ON_LICENCE);
        Check.due("recall(1)", x.recall(1), 87);
        Check.due("earlier awards do not concern it", x.recallEnd(), 87);
        x.advance(1);
        Check.due("recall(28) near the end", x.recall(28), 99);
        Check.due("recallCount", x.recallCount(), 3);
    }

    private static void promise16RecallUntilTheEnd() {
        TermReckoner x = Scene.onLicence();
        Check.due("recall(0)", x.recall(0), 99);
        x.award(5);
        Check.due("an award does not move it", x.recallEnd(), 99);
        x.impose(HALF, 0, 80);
        Check.due("a later end does not move the limit", x.recallEnd(), 99);
        Check.due("daysInCustodyLeft", x.daysInCustodyLeft(), 49);
        x.advance(49);
        Check.due("after it", x.status(), TermReckoner.ON_LICENCE);
        Check.due("history", Scene.history(x), "f30 c69");
    }

    private static void promise16WrongCalls() {
        TermReckoner x = Scene.onLicence();
        for (int days : new int[] {-1, 29, MIN, MAX}) {
            Check.argument("recall(" + days + ")", () -> x.recall(days));
        }
        Check.due("recallCount after wrong calls", x.recallCount(), 0);
        TermReckoner free = new TermReckoner();
        Check.state("recall of a free prisoner", () -> free.recall(0));
        Check.argument("recall(29) of a free prisoner", () -> free.recall(29));
        free.impose(FULL, 0, 5);
        Check.state("recall in custody", () -> free.recall(1));
        free.advance(5);
        Check.state("recall on the end day", () -> free.recall(1));
    }

    private static void promise16SixRecalls() {
        TermReckoner x = Scene.onLicence();
        for (int r = 0; r < 6; r++) {
            Check.due("recall " + r, x.recall(1), 51 + 2 * r);
            x.advance(2);
        }
        Check.due("on licence", x.status(), TermReckoner.ON_LICENCE);
        Check.state("a seventh recall", () -> x.recall(1));
        Check.argument("a seventh recall, and wrong", () -> x.recall(29));
        Check.due("recallCount", x.recallCount(), 6);
    }

    private static void promise16LimitFollowsTheLastEnd() {
        TermReckoner x = Scene.onLicence();
        x.recall(0);
        x.impose(HALF, 0, 40);
        Check.due("the limit is the old end", x.recallEnd(), 99);
        x.quash(0);
        Check.due("the limit is the end that is left", x.recallEnd(), 90);
        x.addRemand(1, 0, 9);
        Check.due("the limit follows the credit", x.recallEnd(), 80);
        x.impose(FULL, 0, 99);
        Check.due("the limit does not rise again", x.recallEnd(), 80);
        x.quash(2);
        x.quash(1);
        Check.missing("no term, no recall", () -> x.recallEnd());
        Check.due("status", x.status(), TermReckoner.FREE);
        x.impose(FULL, 0, 50);
        Check.missing("the recall does not come back", () -> x.recallEnd());
    }
}
