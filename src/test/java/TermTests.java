/** Promises 17 to 32: what can be asked of a term. */
public final class TermTests {
    private static final int HALF = TermReckoner.HALF;
    private static final int TWO_THIRDS = TermReckoner.TWO_THIRDS;
    private static final int FULL = TermReckoner.FULL;
    private static final int DETENTION = TermReckoner.DETENTION;

    /** A question about one term. */
    private interface Question {
        long of(int term);
    }

    public static void main(String[] args) {
        promises17To19();
        promise20ParentOf();
        promises21And22Chains();
        promises23To25StartsAndLengths();
        startsAndLengthsStay();
        promise24LengthAtTheEndOfAMonth();
        promise26CustodialPart();
        promises27And28Credit();
        promises27And28SideBySide();
        promises27And28ServedDays();
        promise29AddedDays();
        promises30And31Release();
        promises30And31AddedDaysStopAtTheEnd();
        promise32EndDay();
        promises20To32WrongTerms();
        promises18And19WrongTerms();
        theLongestChain();
        Check.finish("TermTests");
    }

    private static void promises17To19() {
        TermReckoner x = new TermReckoner();
        for (int kind = HALF; kind <= DETENTION; kind++) {
            x.impose(kind, 1, 0);
            Check.due("termCount", x.termCount(), kind + 1);
            Check.due("kindOf(" + kind + ")", x.kindOf(kind), kind);
        }
        Check.due("isQuashed(2) before", x.isQuashed(2), false);
        x.quash(2);
        Check.due("isQuashed(2)", x.isQuashed(2), true);
        Check.due("isQuashed(1)", x.isQuashed(1), false);
        Check.due("kindOf a quashed term", x.kindOf(2), FULL);
        Check.due("termCount with a quashed term", x.termCount(), 4);
    }

    private static void promise20ParentOf() {
        TermReckoner x = new TermReckoner();
        x.impose(FULL, 1, 0);
        x.impose(FULL, 2, 0);
        x.imposeConsecutive(1, FULL, 1, 0);
        x.imposeConsecutive(2, FULL, 1, 0);
        Check.missing("parentOf(0)", () -> x.parentOf(0));
        Check.due("parentOf(2)", x.parentOf(2), 1);
        Check.due("parentOf(3)", x.parentOf(3), 2);
        x.quash(2);
        Check.due("parentOf(3) without 2", x.parentOf(3), 1);
        Check.state("parentOf(2), which is quashed", () -> x.parentOf(2));
        x.quash(0);
        Check.state("parentOf(0), which is quashed and was independent", () -> x.parentOf(0));
    }

    private static void promises21And22Chains() {
        TermReckoner x = new TermReckoner();
        x.impose(FULL, 1, 0);
        x.imposeConsecutive(0, FULL, 1, 0);
        x.imposeConsecutive(1, FULL, 1, 0);
        x.imposeConsecutive(0, FULL, 1, 0);
        x.impose(FULL, 1, 0);
        long[] chains = {1, 2, 3, 2, 1};
        long[] descendants = {3, 1, 0, 0, 0};
        for (int t = 0; t < 5; t++) {
            Check.due("chainLength(" + t + ")", x.chainLength(t), chains[t]);
            Check.due("descendants(" + t + ")", x.descendants(t), descendants[t]);
        }
        x.quash(2);
        Check.due("descendants(0) without 2", x.descendants(0), 2);
        x.quash(0);
        Check.due("chainLength(1) without 0", x.chainLength(1), 1);
        Check.due("descendants(1)", x.descendants(1), 0);
    }

    /** Day 366 is 1 January 2001. */
    private static void promises23To25StartsAndLengths() {
        TermReckoner x = Scene.at(366);
        x.impose(HALF, 1, 5);
        x.imposeConsecutive(0, HALF, 0, 10);
        x.imposeConsecutive(1, HALF, 12, 0);
        Check.due("start(0)", x.start(0), 366);
        Check.due("length(0)", x.length(0), 36);
        Check.due("totalLength(0)", x.totalLength(0), 36);
        Check.due("start(1)", x.start(1), 402);
        Check.due("length(1)", x.length(1), 10);
        Check.due("totalLength(1)", x.totalLength(1), 46);
        Check.due("start(2)", x.start(2), 412);
        Check.due("length(2)", x.length(2), 365);
        Check.due("totalLength(2)", x.totalLength(2), 411);
        x.award(20);
        x.advance(300);
        Check.due("start(2) after an award and days", x.start(2), 412);
        Check.due("totalLength(2) after them", x.totalLength(2), 411);
    }

    /** "Credit, added days and recalls do not change starts and lengths." */
    private static void startsAndLengthsStay() {
        TermReckoner x = Scene.at(31);
        x.impose(HALF, 1, 0);
        x.imposeConsecutive(0, DETENTION, 0, 10);
        startsAndLengthsAre(x, "at first");
        Check.due("credit of 0", x.addRemand(0, 0, 11), 12);
        Check.due("credit of 1", x.addRemand(1, 20, 23), 16);
        startsAndLengthsAre(x, "with credit");
        x.award(2);
        Check.due("release of 1", x.releaseDay(1), 31 + 15 + 10 - 16 + 2);
        startsAndLengthsAre(x, "with added days");
        x.giveBack(0, 1);
        startsAndLengthsAre(x, "with a day given back");
        x.advance(10);
        Check.due("the end of a recall", x.recall(5), 46);
        startsAndLengthsAre(x, "in a recall");
        x.award(3);
        x.advance(9);
        startsAndLengthsAre(x, "after a recall");
    }

    /** A month from 1 February 2000, and ten days more from 1 March. */
    private static void startsAndLengthsAre(TermReckoner x, String when) {
        Check.due("start(0) " + when, x.start(0), 31);
        Check.due("length(0) " + when, x.length(0), 29);
        Check.due("totalLength(0) " + when, x.totalLength(0), 29);
        Check.due("start(1) " + when, x.start(1), 60);
        Check.due("length(1) " + when, x.length(1), 10);
        Check.due("totalLength(1) " + when, x.totalLength(1), 39);
    }

    /** Day 30 is 31 January 2000, day 59 is 29 February. */
    private static void promise24LengthAtTheEndOfAMonth() {
        TermReckoner x = Scene.at(30);
        x.impose(FULL, 1, 0);
        Check.due("31 January to 29 February", x.length(0), 29);
        x.impose(FULL, 1, 3);
        Check.due("days come after the months", x.length(1), 32);
        x.advance(29);
        x.impose(FULL, 12, 0);
        Check.due("29 February to 28 February", x.length(2), 365);
        x.impose(FULL, 48, 0);
        Check.due("29 February to 29 February", x.length(3), 1461);
    }

    private static void promise26CustodialPart() {
        int[][] parts = {
            {HALF, 1, 1}, {HALF, 2, 1}, {HALF, 3, 2}, {HALF, 99, 50},
            {TWO_THIRDS, 1, 1}, {TWO_THIRDS, 2, 2}, {TWO_THIRDS, 3, 2}, {TWO_THIRDS, 4, 3}, {TWO_THIRDS, 99, 66},
            {FULL, 1, 1}, {FULL, 98, 98},
            {DETENTION, 1, 1}, {DETENTION, 29, 29}, {DETENTION, 30, 30}, {DETENTION, 31, 30},
            {DETENTION, 60, 30}, {DETENTION, 61, 31}, {DETENTION, 99, 50},
        };
        for (int[] p : parts) {
            TermReckoner x = new TermReckoner();
            x.impose(p[0], 0, p[1]);
            Check.due("kind " + p[0] + " of " + p[1] + " days", x.custodialPart(0), p[2]);
        }
        TermReckoner x = new TermReckoner();
        x.impose(HALF, 0, 3);
        x.imposeConsecutive(0, HALF, 0, 3);
        x.imposeConsecutive(1, TWO_THIRDS, 0, 4);
        Check.due("each term is rounded by itself", x.custodialPart(1), 4);
        Check.due("of three terms", x.custodialPart(2), 7);
        Check.due("of the first term", x.custodialPart(0), 2);
    }

    private static void promises27And28Credit() {
        TermReckoner x = Scene.at(200);
        x.impose(FULL, 3, 0);
        creditIs(x, "without periods", 0, 0);
        x.addRemand(0, 100, 109);
        x.addRemand(0, 50, 54);
        creditIs(x, "of two periods", 0, 15);
        x.addRemand(0, 54, 54);
        creditIs(x, "the same day again", 0, 15);
        x.addRemand(0, 55, 99);
        creditIs(x, "what lies between", 0, 60);
        x.addRemand(0, 40, 120);
        creditIs(x, "around all", 0, 81);
        x.imposeConsecutive(0, FULL, 0, 99);
        creditIs(x, "of the parent", 1, 81);
        x.addRemand(1, 0, 0);
        creditIs(x, "and of its own", 1, 82);
        creditIs(x, "a follower's day is not the parent's", 0, 81);
        x.impose(FULL, 0, 9);
        x.addRemand(2, 100, 150);
        creditIs(x, "as much as the length", 2, 9);
        creditIs(x, "of another chain", 1, 82);
    }

    private static void promises27And28SideBySide() {
        TermReckoner x = Scene.at(400);
        x.impose(FULL, 14, 0);
        x.addRemand(0, 63, 64);
        x.addRemand(0, 65, 127);
        x.addRemand(0, 128, 128);
        creditIs(x, "neighbours", 0, 66);
        x.addRemand(0, 130, 130);
        creditIs(x, "with a gap of a day", 0, 67);
        x.addRemand(0, 0, 63);
        creditIs(x, "from the first day", 0, 130);
        x.addRemand(0, 130, 399);
        creditIs(x, "to the last day", 0, 399);
    }

    /** Days 10 to 19 are served days, days 20 to 29 licence days. */
    private static void promises27And28ServedDays() {
        TermReckoner x = Scene.at(10);
        x.impose(HALF, 0, 20);
        x.advance(90);
        x.impose(FULL, 0, 99);
        x.addRemand(1, 5, 14);
        creditIs(x, "5 days before the served ones", 1, 5);
        x.addRemand(1, 12, 18);
        creditIs(x, "served days alone", 1, 5);
        x.addRemand(1, 19, 20);
        creditIs(x, "the first licence day", 1, 6);
        x.addRemand(1, 0, 99);
        creditIs(x, "all days", 1, 90);
    }

    private static void creditIs(TermReckoner x, String what, int term, int want) {
        Check.due("credit " + what, x.credit(term), want);
        Check.due("creditByMerging " + what, x.creditByMerging(term), want);
    }

    private static void promise29AddedDays() {
        TermReckoner x = new TermReckoner();
        x.impose(HALF, 0, 80);
        x.imposeConsecutive(0, HALF, 0, 80);
        x.impose(HALF, 0, 4);
        x.award(10);
        x.advance(20);
        x.award(5);
        Check.due("once for a chain, not for each term", x.addedDays(1), 15);
        Check.due("of the parent", x.addedDays(0), 15);
        Check.due("a term that released before the second award", x.addedDays(2), 10);
        x.imposeConsecutive(1, HALF, 0, 80);
        Check.due("a later term, by its chain", x.addedDays(3), 15);
        Check.due("but the award does not concern itself", x.concerns(1, 3), false);
        x.impose(HALF, 0, 80);
        Check.due("a later term of its own", x.addedDays(4), 0);
        x.giveBack(0, 4);
        Check.due("without the days given back", x.addedDays(1), 11);
        x.quash(0);
        Check.due("the award concerns 1 itself", x.addedDays(1), 11);
        x.quash(1);
        Check.due("no chain is left to 3", x.addedDays(3), 0);
    }

    private static void promises30And31Release() {
        TermReckoner x = Scene.at(100);
        x.impose(HALF, 0, 81);
        releaseIs(x, "half, rounded up", 0, 141);
        x.addRemand(0, 0, 9);
        releaseIs(x, "10 days earlier", 0, 131);
        x.imposeConsecutive(0, FULL, 0, 19);
        x.addRemand(0, 10, 49);
        releaseIs(x, "more credit than custody", 0, 100);
        releaseIs(x, "a chain starts with its first term", 1, 110);
        x.award(7);
        releaseIs(x, "added days after credit", 1, 117);
        releaseIs(x, "a term that the award does not concern", 0, 100);
        x.giveBack(0, 3);
        releaseIs(x, "4 days left", 1, 114);
        x.advance(60);
        releaseIs(x, "a day that has passed", 1, 114);
    }

    private static void promises30And31AddedDaysStopAtTheEnd() {
        TermReckoner x = Scene.at(50);
        x.impose(HALF, 0, 20);
        x.addRemand(0, 0, 3);
        x.award(9);
        releaseIs(x, "nearly the end", 0, 65);
        x.award(9);
        releaseIs(x, "the end", 0, 66);
        Check.due("end", x.endDay(0), 66);
        x.impose(FULL, 0, 20);
        x.award(42);
        releaseIs(x, "no licence day to turn", 1, 70);
        x.impose(FULL, 0, 5);
        x.addRemand(2, 0, 30);
        releaseIs(x, "all credited", 2, 50);
        x.impose(HALF, 0, 20);
        x.award(42);
        x.addRemand(3, 0, 14);
        releaseIs(x, "credit takes licence days before added days turn them", 3, 55);
    }

    private static void releaseIs(TermReckoner x, String what, int term, int want) {
        Check.due("releaseDay, " + what, x.releaseDay(term), want);
        Check.due("releaseDayByServing, " + what, x.releaseDayByServing(term), want);
    }

    private static void promise32EndDay() {
        TermReckoner x = Scene.at(40);
        x.impose(HALF, 0, 30);
        Check.due("without credit", x.endDay(0), 70);
        x.addRemand(0, 0, 9);
        Check.due("with credit", x.endDay(0), 60);
        x.award(40);
        Check.due("added days do not move it", x.endDay(0), 60);
        x.imposeConsecutive(0, HALF, 0, 5);
        Check.due("of a chain", x.endDay(1), 65);
        x.impose(FULL, 0, 3);
        x.addRemand(2, 0, 39);
        Check.due("all credited", x.endDay(2), 40);
    }

    private static void promises20To32WrongTerms() {
        TermReckoner x = Scene.at(5);
        String[] names = {"chainLength", "descendants", "start", "length", "totalLength", "custodialPart", "credit",
            "creditByMerging", "addedDays", "releaseDay", "releaseDayByServing", "endDay", "parentOf"};
        Question[] questions = {x::chainLength, x::descendants, x::start, x::length, x::totalLength,
            x::custodialPart, x::credit, x::creditByMerging, x::addedDays, x::releaseDay, x::releaseDayByServing,
            x::endDay, x::parentOf};
        for (int q = 0; q < questions.length; q++) {
            Question question = questions[q];
            Check.index(names[q] + "(0) without terms", () -> question.of(0));
        }
        x.impose(FULL, 1, 0);
        x.impose(FULL, 1, 0);
        x.quash(1);
        for (int q = 0; q < questions.length; q++) {
            Question question = questions[q];
            Check.state(names[q] + " of a quashed term", () -> question.of(1));
            for (int term : new int[] {-1, 2, 10, Integer.MIN_VALUE, Integer.MAX_VALUE}) {
                Check.index(names[q] + "(" + term + ")", () -> question.of(term));
            }
        }
    }

    private static void promises18And19WrongTerms() {
        TermReckoner x = new TermReckoner();
        x.impose(FULL, 1, 0);
        for (int term : new int[] {-1, 1, 10, Integer.MIN_VALUE, Integer.MAX_VALUE}) {
            Check.index("kindOf(" + term + ")", () -> x.kindOf(term));
            Check.index("isQuashed(" + term + ")", () -> Check.bit(x.isQuashed(term)));
        }
    }

    private static void theLongestChain() {
        TermReckoner x = Scene.at(14609);
        x.impose(HALF, 60, 99);
        for (int t = 1; t < 10; t++) {
            x.imposeConsecutive(t - 1, t % 4, 60, 99);
        }
        int total = 0;
        for (int t = 0; t < 10; t++) {
            int later = x.monthsAfter(x.start(t), 60);
            Check.due("length(" + t + ")", x.length(t), later - x.start(t) + 99);
            total += x.length(t);
        }
        Check.due("totalLength(9)", x.totalLength(9), total);
        Check.due("chainLength(9)", x.chainLength(9), 10);
        Check.due("descendants(0)", x.descendants(0), 9);
        Check.due("endDay(9)", x.endDay(9), 14609 + total);
        Check.due("release is custody", x.releaseDay(9), 14609 + x.custodialPart(9));
        Check.due("release by serving", x.releaseDayByServing(9), x.releaseDay(9));
        Check.due("isConsistent", x.isConsistent(), true);
    }
}
