import java.util.function.Supplier;

/**
 * States of a calculator in which the tests try calls. Each is made by fewer than 90 calls, so that with a
 * {@link Snapshot} an object stays within the 512 calls after which its answers are free.
 */
enum State {
    NEW(TermReckoner::new),
    WITHOUT_TERMS(State::withoutTerms),
    CUSTODY(State::custody),
    LICENCE(State::licence),
    RECALL_FOR_DAYS(State::recallForDays),
    RECALL_UNTIL_THE_END(State::recallUntilTheEnd),
    FREE_AGAIN(State::freeAgain),
    ALL_QUASHED(State::allQuashed),
    FULL_IN_CUSTODY(State::fullInCustody),
    FULL_ON_LICENCE(State::fullOnLicence),
    LAST_DAY_FREE(State::lastDayFree),
    LAST_DAY_IN_CUSTODY(State::lastDayInCustody),
    LAST_DAY_ON_LICENCE(State::lastDayOnLicence);

    /** A call, or several, on a calculator; a boolean answer is turned into 1 or 0 by {@link Check#bit}. */
    interface Use {
        long on(TermReckoner x);
    }

    private final Supplier<TermReckoner> maker;

    State(Supplier<TermReckoner> maker) {
        this.maker = maker;
    }

    TermReckoner make() {
        return maker.get();
    }

    private static TermReckoner written(TermReckoner x) {
        x.writeHistory();
        return x;
    }

    /** Day 100, free. */
    private static TermReckoner withoutTerms() {
        return written(Scene.at(100));
    }

    /** Day 110: the chain 0, 1, 2, with an award for 0 and 1; term 3 of today; term 4 of today, quashed. */
    private static TermReckoner custody() {
        TermReckoner x = Scene.at(100);
        x.impose(TermReckoner.HALF, 3, 0);
        x.addRemand(0, 10, 29);
        x.imposeConsecutive(0, TermReckoner.TWO_THIRDS, 1, 5);
        x.addRemand(1, 20, 39);
        x.advance(10);
        x.award(7);
        x.imposeConsecutive(1, TermReckoner.DETENTION, 0, 40);
        x.impose(TermReckoner.FULL, 0, 20);
        x.addRemand(3, 0, 4);
        x.impose(TermReckoner.FULL, 1, 0);
        x.addRemand(4, 50, 59);
        x.quash(4);
        return written(x);
    }

    /** Day 50: term 0 with release day 50 and end day 99; term 1 of today, quashed. */
    private static TermReckoner licence() {
        TermReckoner x = Scene.onLicence();
        x.impose(TermReckoner.FULL, 0, 5);
        x.quash(1);
        return written(x);
    }

    /** Day 53 of a recall of day 50 for 10 days and 3 added ones; the last end day is 99. */
    private static TermReckoner recallForDays() {
        TermReckoner x = Scene.onLicence();
        x.recall(10);
        x.award(5);
        x.giveBack(0, 2);
        x.advance(3);
        return written(x);
    }

    /** Day 50: a recall with limit 90, the end of term 1 of today; term 0 is quashed. */
    private static TermReckoner recallUntilTheEnd() {
        TermReckoner x = Scene.onLicence();
        x.recall(0);
        x.impose(TermReckoner.HALF, 0, 40);
        x.quash(0);
        return written(x);
    }

    /** Day 110: the only term ended on day 99. */
    private static TermReckoner freeAgain() {
        TermReckoner x = Scene.onLicence();
        x.advance(60);
        return written(x);
    }

    private static TermReckoner allQuashed() {
        TermReckoner x = Scene.at(10);
        x.impose(TermReckoner.FULL, 1, 0);
        x.imposeConsecutive(0, TermReckoner.FULL, 1, 0);
        x.award(9);
        x.advance(5);
        x.quash(0);
        x.quash(1);
        return written(x);
    }

    /** Day 62: 10 terms, of which 1 to 9 are of today and 9 is quashed, 8 remand periods, 8 awards, 6 recalls. */
    private static TermReckoner full() {
        TermReckoner x = Scene.onLicence();
        for (int recall = 0; recall < 6; recall++) {
            x.recall(1);
            x.advance(2);
        }
        for (int term = 1; term < 10; term++) {
            x.impose(TermReckoner.HALF, 0, 60);
        }
        for (int term = 1; term < 8; term++) {
            x.addRemand(term, 0, 0);
        }
        for (int award = 0; award < 8; award++) {
            x.award(1);
        }
        x.quash(9);
        return x;
    }

    private static TermReckoner fullInCustody() {
        return written(full());
    }

    /** Day 102: the last release day is 100, the last end day 122. */
    private static TermReckoner fullOnLicence() {
        TermReckoner x = full();
        x.advance(40);
        return written(x);
    }

    private static TermReckoner lastDayFree() {
        return written(Scene.at(14609));
    }

    private static TermReckoner lastDayInCustody() {
        TermReckoner x = Scene.at(14600);
        x.impose(TermReckoner.HALF, 0, 40);
        x.award(3);
        x.advance(9);
        return written(x);
    }

    private static TermReckoner lastDayOnLicence() {
        TermReckoner x = Scene.at(14600);
        x.impose(TermReckoner.HALF, 0, 18);
        x.advance(9);
        return written(x);
    }
}
