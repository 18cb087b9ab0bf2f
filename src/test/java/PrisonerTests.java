/** Promises 33 to 44: what can be asked of the prisoner, of awards and of what would be. */
public final class PrisonerTests {
    private static final int HALF = TermReckoner.HALF;
    private static final int FULL = TermReckoner.FULL;
    private static final int FREE = TermReckoner.FREE;
    private static final int ON_LICENCE = TermReckoner.ON_LICENCE;
    private static final int IN_CUSTODY = TermReckoner.IN_CUSTODY;

    public static void main(String[] args) {
        promise33Status();
        promise33OtherTermsDecide();
        promises34To36Greatest();
        promises34To36None();
        promise37Order();
        promise37Ties();
        promise38DaysInCustodyLeft();
        promises39And40Recalls();
        promise41AwardDays();
        promise42Concerns();
        promise43WithAward();
        promise43WhatItConcerns();
        promise43WrongCalls();
        promise44Without();
        promise44ChangesNothing();
        promise44WrongCalls();
        Check.finish("PrisonerTests");
    }

    private static void promise33Status() {
        TermReckoner x = new TermReckoner();
        Check.due("without terms", x.status(), FREE);
        x.impose(HALF, 0, 10);
        Check.due("on the first day", x.status(), IN_CUSTODY);
        x.advance(4);
        Check.due("on the day before the release", x.status(), IN_CUSTODY);
        x.advance(1);
        Check.due("on the release day", x.status(), ON_LICENCE);
        x.advance(4);
        Check.due("on the day before the end", x.status(), ON_LICENCE);
        x.advance(1);
        Check.due("on the end day", x.status(), FREE);
    }

    private static void promise33OtherTermsDecide() {
        TermReckoner x = new TermReckoner();
        x.impose(FULL, 0, 10);
        x.impose(HALF, 0, 80);
        x.impose(FULL, 0, 50);
        Check.due("three terms", x.status(), IN_CUSTODY);
        x.advance(40);
        Check.due("one of them", x.status(), IN_CUSTODY);
        x.quash(2);
        Check.due("it is quashed", x.status(), ON_LICENCE);
        x.recall(3);
        Check.due("recalled", x.status(), IN_CUSTODY);
        x.advance(3);
        Check.due("the recall is over", x.status(), ON_LICENCE);
        x.quash(1);
        Check.due("only an old term is left", x.status(), FREE);
    }

    private static void promises34To36Greatest() {
        TermReckoner x = new TermReckoner();
        x.impose(HALF, 0, 40);
        Check.due("decidingTerm of one", x.decidingTerm(), 0);
        Check.due("lastRelease of one", x.lastRelease(), 20);
        Check.due("lastEnd of one", x.lastEnd(), 40);
        x.impose(FULL, 0, 30);
        x.impose(FULL, 0, 30);
        Check.due("lastRelease", x.lastRelease(), 30);
        Check.due("lastEnd is another term's", x.lastEnd(), 40);
        Check.due("the smallest number of two", x.decidingTerm(), 1);
        x.quash(1);
        Check.due("decidingTerm without 1", x.decidingTerm(), 2);
        x.quash(0);
        Check.due("lastEnd without 0", x.lastEnd(), 30);
        x.advance(200);
        Check.due("lastRelease, long past", x.lastRelease(), 30);
        Check.due("lastEnd, long past", x.lastEnd(), 30);
        Check.due("decidingTerm, long past", x.decidingTerm(), 2);
    }

    private static void promises34To36None() {
        TermReckoner x = new TermReckoner();
        for (int i = 0; i < 2; i++) {
            Check.missing("lastRelease", () -> x.lastRelease());
            Check.missing("lastEnd", () -> x.lastEnd());
            Check.missing("decidingTerm", () -> x.decidingTerm());
            Check.index("termByRelease(0)", () -> x.termByRelease(0));
            x.impose(FULL, 0, 5);
            x.quash(i);
        }
    }

    private static void promise37Order() {
        TermReckoner x = new TermReckoner();
        x.impose(FULL, 0, 50);
        x.impose(FULL, 0, 20);
        x.impose(FULL, 0, 70);
        x.impose(FULL, 0, 30);
        x.quash(3);
        orderIs(x, 1, 0, 2);
        Check.index("termByRelease(3)", () -> x.termByRelease(3));
        Check.index("termByRelease(-1)", () -> x.termByRelease(-1));
        Check.index("termByRelease(min)", () -> x.termByRelease(Integer.MIN_VALUE));
        Check.index("termByRelease(max)", () -> x.termByRelease(Integer.MAX_VALUE));
        x.quash(1);
        orderIs(x, 0, 2);
    }

    private static void promise37Ties() {
        TermReckoner x = new TermReckoner();
        x.impose(HALF, 0, 40);
        x.impose(FULL, 0, 20);
        x.impose(HALF, 0, 40);
        x.impose(HALF, 0, 39);
        x.impose(FULL, 0, 20);
        orderIs(x, 1, 4, 3, 0, 2);
    }

    private static void orderIs(TermReckoner x, int... want) {
        for (int position = 0; position < want.length; position++) {
            Check.due("termByRelease(" + position + ")", x.termByRelease(position), want[position]);
        }
        int beyond = want.length;
        Check.index("termByRelease beyond the last", () -> x.termByRelease(beyond));
    }

    private static void promise38DaysInCustodyLeft() {
        TermReckoner x = new TermReckoner();
        Check.due("free", x.daysInCustodyLeft(), 0);
        x.impose(HALF, 0, 60);
        x.impose(FULL, 0, 10);
        Check.due("the later release", x.daysInCustodyLeft(), 30);
        x.award(5);
        Check.due("with an award", x.daysInCustodyLeft(), 35);
        x.advance(34);
        Check.due("one day", x.daysInCustodyLeft(), 1);
        x.advance(1);
        Check.due("on licence", x.daysInCustodyLeft(), 0);
        x.recall(10);
        Check.due("in a recall", x.daysInCustodyLeft(), 10);
        x.impose(FULL, 0, 4);
        Check.due("the recall is longer than the term", x.daysInCustodyLeft(), 10);
        x.impose(FULL, 0, 15);
        Check.due("the term is longer than the recall", x.daysInCustodyLeft(), 15);
        x.advance(100);
        Check.due("free again", x.daysInCustodyLeft(), 0);
    }

    private static void promises39And40Recalls() {
        TermReckoner x = Scene.onLicence();
        Check.due("recallCount before", x.recallCount(), 0);
        Check.missing("recallEnd before", () -> x.recallEnd());
        x.recall(4);
        Check.due("recallCount", x.recallCount(), 1);
        Check.due("recallEnd", x.recallEnd(), 54);
        x.advance(3);
        Check.due("recallEnd on the last day", x.recallEnd(), 54);
        x.advance(1);
        Check.missing("recallEnd after it", () -> x.recallEnd());
        x.recall(0);
        Check.due("recallCount of two", x.recallCount(), 2);
        Check.due("recallEnd of the second", x.recallEnd(), 99);
        x.quash(0);
        Check.missing("recallEnd without terms", () -> x.recallEnd());
        Check.due("recallCount stays", x.recallCount(), 2);
    }

    private static void promise41AwardDays() {
        TermReckoner x = new TermReckoner();
        x.impose(HALF, 0, 10);
        Check.index("awardDays(0) before", () -> x.awardDays(0));
        x.award(42);
        x.award(7);
        Check.due("awardDays(0)", x.awardDays(0), 42);
        Check.due("awardDays(1)", x.awardDays(1), 7);
        x.giveBack(0, 2);
        Check.due("awardDays(0) after 2", x.awardDays(0), 40);
        x.giveBack(1, 7);
        Check.due("awardDays(1) after all", x.awardDays(1), 0);
        for (int award : new int[] {-1, 2, 8, Integer.MIN_VALUE, Integer.MAX_VALUE}) {
            Check.index("awardDays(" + award + ")", () -> x.awardDays(award));
        }
    }

    private static void promise42Concerns() {
        TermReckoner x = new TermReckoner();
        x.impose(HALF, 0, 20);
        x.impose(HALF, 0, 60);
        x.impose(HALF, 0, 60);
        x.quash(2);
        x.advance(10);
        x.award(3);
        x.impose(HALF, 0, 60);
        Check.due("released on this day", x.concerns(0, 0), false);
        Check.due("not released", x.concerns(0, 1), true);
        Check.due("quashed before", x.concerns(0, 2), false);
        Check.due("imposed after", x.concerns(0, 3), false);
        x.quash(1);
        Check.due("quashed after", x.concerns(0, 1), true);
        x.giveBack(0, 3);
        Check.due("all given back", x.concerns(0, 1), true);
        Check.index("no such award", () -> Check.bit(x.concerns(1, 0)));
        Check.index("award -1", () -> Check.bit(x.concerns(-1, 0)));
        Check.index("no such term", () -> Check.bit(x.concerns(0, 4)));
        Check.index("term -1", () -> Check.bit(x.concerns(0, -1)));
        Check.index("term 32, whose bit would be that of 0", () -> Check.bit(x.concerns(0, 32)));
    }

    private static void promise43WithAward() {
        TermReckoner x = new TermReckoner();
        x.impose(HALF, 0, 60);
        x.impose(FULL, 0, 34);
        Check.due("a full term can't be longer", x.lastReleaseWithAward(3), 34);
        Check.due("the other term is last then", x.lastReleaseWithAward(7), 37);
        Check.due("up to the end", x.lastReleaseWithAward(42), 60);
        Check.due("nothing is awarded", x.lastRelease(), 34);
        Check.index("no award is made", () -> x.awardDays(0));
        x.award(7);
        Check.due("what an award does", x.lastRelease(), 37);
        Check.due("after an award", x.lastReleaseWithAward(1), 38);
    }

    private static void promise43WhatItConcerns() {
        TermReckoner x = new TermReckoner();
        x.impose(HALF, 0, 40);
        x.advance(20);
        x.impose(FULL, 0, 2);
        Check.due("a released term is not concerned", x.lastReleaseWithAward(42), 22);
        x.advance(2);
        x.recall(5);
        Check.due("in a recall alone", x.lastReleaseWithAward(10), 22);

        TermReckoner y = new TermReckoner();
        y.impose(HALF, 0, 20);
        y.imposeConsecutive(0, HALF, 0, 40);
        y.imposeConsecutive(1, HALF, 0, 40);
        Check.due("once for a chain of three", y.lastReleaseWithAward(4), 54);
    }

    private static void promise43WrongCalls() {
        TermReckoner x = new TermReckoner();
        Check.state("free", () -> x.lastReleaseWithAward(1));
        Check.argument("free, and wrong", () -> x.lastReleaseWithAward(0));
        x.impose(HALF, 0, 10);
        for (int days : new int[] {0, 43, -1, Integer.MIN_VALUE, Integer.MAX_VALUE}) {
            Check.argument("lastReleaseWithAward(" + days + ")", () -> x.lastReleaseWithAward(days));
        }
        x.advance(5);
        Check.state("on licence", () -> x.lastReleaseWithAward(1));
    }

    private static void promise44Without() {
        TermReckoner x = Scene.at(60);
        x.impose(FULL, 1, 0);
        x.addRemand(0, 0, 9);
        x.imposeConsecutive(0, FULL, 1, 0);
        x.impose(FULL, 0, 25);
        Check.due("lastRelease", x.lastRelease(), 60 + 31 + 30 - 10);
        Check.due("without the first", x.lastReleaseWithout(0), 60 + 31);
        Check.due("without the follower", x.lastReleaseWithout(1), 85);
        Check.due("without the other", x.lastReleaseWithout(2), 111);
        TermReckoner y = new TermReckoner();
        y.impose(FULL, 0, 10);
        y.impose(FULL, 0, 20);
        Check.due("the first of two is left", y.lastReleaseWithout(1), 10);
        Check.due("the second of two is left", y.lastReleaseWithout(0), 20);
        x.quash(0);
        Check.due("what quashing does", x.lastRelease(), 91);
    }

    private static void promise44ChangesNothing() {
        TermReckoner x = Scene.onLicence();
        x.recall(0);
        x.impose(FULL, 0, 10);
        x.imposeConsecutive(1, HALF, 0, 10);
        x.addRemand(2, 0, 3);
        Check.due("without the term of the recall", x.lastReleaseWithout(0), 61);
        Check.due("without the parent", x.lastReleaseWithout(1), 51);
        Check.due("the limit of the recall stays", x.recallEnd(), 99);
        Check.due("not quashed", x.isQuashed(0), false);
        Check.due("parentOf(2)", x.parentOf(2), 1);
        Check.due("start(2)", x.start(2), 60);
        Check.due("credit(2)", x.credit(2), 4);
        Check.due("release of 2", x.releaseDay(2), 61);
        Check.due("lastEnd", x.lastEnd(), 99);

        TermReckoner y = new TermReckoner();
        y.impose(FULL, 0, 10);
        y.advance(5);
        y.imposeConsecutive(0, FULL, 0, 10);
        y.imposeConsecutive(1, FULL, 0, 10);
        y.impose(FULL, 0, 3);
        for (int t = 0; t < 4; t++) {
            y.lastReleaseWithout(t);
        }
        y.quash(0);
        Check.due("start(1) after asking and quashing", y.start(1), 0);
        y.quash(1);
        Check.due("start(2) after asking and quashing", y.start(2), 0);
        Check.due("start(3) after asking and quashing", y.start(3), 5);
    }

    private static void promise44WrongCalls() {
        TermReckoner x = new TermReckoner();
        Check.index("without terms", () -> x.lastReleaseWithout(0));
        x.impose(FULL, 0, 10);
        Check.missing("the only term", () -> x.lastReleaseWithout(0));
        x.impose(FULL, 0, 20);
        x.quash(0);
        Check.missing("the only one not quashed", () -> x.lastReleaseWithout(1));
        Check.state("quashed already", () -> x.lastReleaseWithout(0));
        Check.index("term 2", () -> x.lastReleaseWithout(2));
        Check.index("term -1", () -> x.lastReleaseWithout(-1));
        x.quash(1);
        Check.state("all are quashed", () -> x.lastReleaseWithout(1));
    }
}
