/**
 * The range of every parameter, one sentence after the other: the last values within it are taken, the first
 * beyond it on both sides and the smallest and the greatest int are refused, and a refused call changes nothing.
 */
public final class RangeTests {
    private static final int MIN = Integer.MIN_VALUE;
    private static final int MAX = Integer.MAX_VALUE;
    private static final String ARGUMENT = "IllegalArgumentException";
    private static final String INDEX = "IndexOutOfBoundsException";

    /** A call of which one argument is tried. */
    private interface Tried {
        long with(TermReckoner x, int value);
    }

    public static void main(String[] args) {
        dates();
        theLastDayOfEachMonth();
        days();
        monthsAfter();
        advance();
        sentences();
        sentencesOfAFollower();
        parents();
        remandDays();
        awardsAndRecalls();
        giveBack();
        terms();
        termsThatCanBeQuashed();
        positions();
        awards();
        historyDays();
        outputIndexes();
        Check.finish("RangeTests");
    }

    private static int[] list(int... values) {
        return values;
    }

    private static void taken(State state, String call, Tried tried, int... values) {
        for (int value : values) {
            String outcome = Check.outcome(() -> tried.with(state.make(), value));
            Check.due(state + ": " + call + " with " + value + " is taken, " + outcome,
                    outcome.endsWith("Exception"), false);
        }
    }

    private static void refused(State state, String call, String exception, Tried tried, int... values) {
        for (int value : values) {
            Snapshot.refused(state, call + " with " + value, x -> tried.with(x, value), exception);
        }
    }

    /** Promises 2 and 3: "the year, 2000 to 2099", "the month, 1 to 12", "the day of the month, from 1". */
    private static void dates() {
        dates("dayNumber", TermReckoner::dayNumber);
        dates("dayNumberByMonths", TermReckoner::dayNumberByMonths);
    }

    private interface Date {
        int number(TermReckoner x, int year, int month, int dayOfMonth);
    }

    private static void dates(String name, Date date) {
        State state = State.CUSTODY;
        Tried year = (x, v) -> date.number(x, v, 1, 1);
        taken(state, name + ", year", year, 2000, 2099);
        refused(state, name + ", year", ARGUMENT, year, 1999, 2100, 0, -1, 4, MIN, MAX);
        Tried month = (x, v) -> date.number(x, 2000, v, 1);
        taken(state, name + ", month", month, 1, 12);
        refused(state, name + ", month", ARGUMENT, month, 0, 13, -1, MIN, MAX);
        Tried day = (x, v) -> date.number(x, 2099, 12, v);
        taken(state, name + ", day", day, 1, 31);
        refused(state, name + ", day", ARGUMENT, day, 0, 32, -1, MIN, MAX);
        TermReckoner x = new TermReckoner();
        Check.due(name + " of the first day", date.number(x, 2000, 1, 1), 0);
        Check.due(name + " of the last day", date.number(x, 2099, 12, 31), 36524);
    }

    /** "February has 29 days if the number of the year is divisible by 4". */
    private static void theLastDayOfEachMonth() {
        int[] lengths = {31, 28, 31, 30, 31, 30, 31, 31, 30, 31, 30, 31};
        int first = 0;
        for (int year = 2000; year <= 2099; year++) {
            TermReckoner x = new TermReckoner();
            for (int month = 1; month <= 12; month++) {
                int length = month == 2 && year % 4 == 0 ? 29 : lengths[month - 1];
                int last = first + length - 1;
                theEdgesOfAMonth(x, year, month, length, first);
                Check.due("monthOf the last day of " + year + "-" + month, x.monthOf(last), month);
                Check.due("yearOf the last day of " + year + "-" + month, x.yearOf(last), year);
                Check.due("dayOfMonth of the last day", x.dayOfMonth(last), length);
                Check.due("dayOfMonth of the first day", x.dayOfMonth(first), 1);
                first += length;
            }
        }
        Check.due("all days", first, 36525);
    }

    private static void theEdgesOfAMonth(TermReckoner x, int year, int month, int length, int first) {
        String name = "dayNumber(" + year + ", " + month + ", .)";
        String other = "dayNumberByMonths(" + year + ", " + month + ", .)";
        Check.argument(name + ", day 0", () -> x.dayNumber(year, month, 0));
        Check.due(name + ", day 1", x.dayNumber(year, month, 1), first);
        Check.due(name + ", the last", x.dayNumber(year, month, length), first + length - 1);
        Check.argument(name + ", one more", () -> x.dayNumber(year, month, length + 1));
        Check.argument(other + ", day 0", () -> x.dayNumberByMonths(year, month, 0));
        Check.due(other + ", day 1", x.dayNumberByMonths(year, month, 1), first);
        Check.due(other + ", the last", x.dayNumberByMonths(year, month, length), first + length - 1);
        Check.argument(other + ", one more", () -> x.dayNumberByMonths(year, month, length + 1));
    }

    /** Promises 4 to 6: "a day, 0 to 36524". */
    private static void days() {
        days("yearOf", TermReckoner::yearOf);
        days("monthOf", TermReckoner::monthOf);
        days("dayOfMonth", TermReckoner::dayOfMonth);
        TermReckoner x = new TermReckoner();
        Check.due("yearOf(0)", x.yearOf(0), 2000);
        Check.due("monthOf(0)", x.monthOf(0), 1);
        Check.due("dayOfMonth(0)", x.dayOfMonth(0), 1);
        Check.due("yearOf(36524)", x.yearOf(36524), 2099);
        Check.due("monthOf(36524)", x.monthOf(36524), 12);
        Check.due("dayOfMonth(36524)", x.dayOfMonth(36524), 31);
    }

    private static void days(String name, Tried tried) {
        taken(State.CUSTODY, name, tried, 0, 1, 36523, 36524);
        refused(State.CUSTODY, name, ARGUMENT, tried, -1, 36525, MIN, MAX);
    }

    /** Promise 7: "a day, 0 to 36524", "the number of months, 0 to 60", "or the later day would be after". */
    private static void monthsAfter() {
        days("monthsAfter, day", (x, v) -> x.monthsAfter(v, 0));
        Tried months = (x, v) -> x.monthsAfter(0, v);
        taken(State.CUSTODY, "monthsAfter, months", months, 0, 1, 59, 60);
        refused(State.CUSTODY, "monthsAfter, months", ARGUMENT, months, -1, 61, MIN, MAX);
        int lastOfOctober = 36524 - 61;
        int lastOf2094 = 36524 - 1826;
        TermReckoner x = new TermReckoner();
        Check.due("31 October 2099 and 2 months", x.monthsAfter(lastOfOctober, 2), 36524);
        Check.due("31 December 2094 and 60 months", x.monthsAfter(lastOf2094, 60), 36524);
        Check.due("30 November 2099 and a month", x.monthsAfter(36493, 1), 36523);
        Tried month = (y, v) -> y.monthsAfter(v, 1);
        refused(State.CUSTODY, "monthsAfter, a month from December 2099", ARGUMENT, month, 36494, 36523, 36524);
        refused(State.CUSTODY, "monthsAfter, 3 months", ARGUMENT, (y, v) -> y.monthsAfter(v, 3), lastOfOctober);
        refused(State.CUSTODY, "monthsAfter, 60 months", ARGUMENT, (y, v) -> y.monthsAfter(v, 60), lastOf2094 + 1);
    }

    /** Promise 9: "the number of days, 1 to 400"; the current day is "at most 14609". */
    private static void advance() {
        for (State state : State.values()) {
            refused(state, "advance", ARGUMENT, TermReckoner::advance, 0, -1, 401, MIN, MAX);
        }
        taken(State.NEW, "advance", TermReckoner::advance, 1, 2, 399, 400);
        taken(State.CUSTODY, "advance", TermReckoner::advance, 1, 2, 399, 400);
        Tried from = (x, day) -> {
            Scene.pass(x, day);
            return x.advance(400);
        };
        taken(State.NEW, "advance(400) from a day", from, 14208, 14209);
        Check.state("advance(400) from day 14210", () -> from.with(new TermReckoner(), 14210));
        Check.due("advance(399) from day 14210", Scene.at(14210).advance(399), 0);
        Check.state("advance(2) from day 14608", () -> Scene.at(14608).advance(2));
        TermReckoner x = Scene.at(14608);
        Check.due("advance(1) from day 14608", x.advance(1), 0);
        Check.due("the greatest current day", x.today(), 14609);
        String state = "IllegalStateException";
        refused(State.LAST_DAY_FREE, "advance", state, TermReckoner::advance, 1, 2, 400);
        refused(State.LAST_DAY_IN_CUSTODY, "advance", state, TermReckoner::advance, 1, 2, 400);
        refused(State.LAST_DAY_ON_LICENCE, "advance", state, TermReckoner::advance, 1, 2, 400);
    }

    private interface Sentence {
        int impose(TermReckoner x, int kind, int months, int days);
    }

    /** Promise 10: "the kind, 0 to 3", "months, 0 to 60", "days, 0 to 99", "or months and days are both 0". */
    private static void sentences() {
        sentences("impose", TermReckoner::impose);
    }

    /** Promise 11, with the same ranges. */
    private static void sentencesOfAFollower() {
        sentences("imposeConsecutive", (x, kind, months, days) -> x.imposeConsecutive(1, kind, months, days));
    }

    private static void sentences(String name, Sentence s) {
        State state = State.CUSTODY;
        Tried kind = (x, v) -> s.impose(x, v, 1, 1);
        taken(state, name + ", kind", kind, 0, 1, 2, 3);
        refused(state, name + ", kind", ARGUMENT, kind, -1, 4, MIN, MAX);
        Tried months = (x, v) -> s.impose(x, 0, v, 1);
        taken(state, name + ", months with a day", months, 0, 1, 59, 60);
        refused(state, name + ", months with a day", ARGUMENT, months, -1, 61, MIN, MAX);
        Tried monthsAlone = (x, v) -> s.impose(x, 0, v, 0);
        taken(state, name + ", months alone", monthsAlone, 1, 60);
        refused(state, name + ", months alone", ARGUMENT, monthsAlone, 0, -1, 61, MIN, MAX);
        Tried days = (x, v) -> s.impose(x, 0, 1, v);
        taken(state, name + ", days with a month", days, 0, 1, 98, 99);
        refused(state, name + ", days with a month", ARGUMENT, days, -1, 100, MIN, MAX);
        Tried daysAlone = (x, v) -> s.impose(x, 0, 0, v);
        taken(state, name + ", days alone", daysAlone, 1, 99);
        refused(state, name + ", days alone", ARGUMENT, daysAlone, 0, -1, 100, MIN, MAX);
        taken(state, name + ", the longest", (x, v) -> s.impose(x, v, 60, 99), 0, 1, 2, 3);
        refused(state, name + ", nothing of each kind", ARGUMENT, (x, v) -> s.impose(x, v, 0, 0), 0, 1, 2, 3);
    }

    /** Promise 11: "if there is no term with the number parent". */
    private static void parents() {
        Tried parent = (x, v) -> x.imposeConsecutive(v, 0, 1, 0);
        refused(State.NEW, "imposeConsecutive, parent", INDEX, parent, 0, -1, 1, MIN, MAX);
        taken(State.CUSTODY, "imposeConsecutive, parent", parent, 0, 3);
        refused(State.CUSTODY, "imposeConsecutive, parent", INDEX, parent, -1, 5, 9, 10, 32, MIN, MAX);
        refused(State.FULL_IN_CUSTODY, "imposeConsecutive, parent", INDEX, parent, -1, 10, 32, MIN, MAX);
    }

    /** Promise 12: "from 0", "not before the first one and before the current day". */
    private static void remandDays() {
        State state = State.CUSTODY;
        Tried term = (x, v) -> x.addRemand(v, 0, 0);
        refused(State.NEW, "addRemand, term", INDEX, term, 0, -1, 1, MIN, MAX);
        taken(state, "addRemand, term", term, 2, 3);
        refused(state, "addRemand, term", INDEX, term, -1, 5, 9, 10, 32, MIN, MAX);
        Tried first = (x, v) -> x.addRemand(3, v, 50);
        taken(state, "addRemand, first day", first, 0, 1, 49, 50);
        refused(state, "addRemand, first day", ARGUMENT, first, -1, 51, MIN, MAX);
        Tried last = (x, v) -> x.addRemand(3, 50, v);
        taken(state, "addRemand, last day", last, 50, 51, 108, 109);
        refused(state, "addRemand, last day", ARGUMENT, last, 49, 110, 111, -1, 0, MIN, MAX);
        Tried both = (x, v) -> x.addRemand(3, v, v);
        taken(state, "addRemand, one day", both, 0, 109);
        refused(state, "addRemand, one day", ARGUMENT, both, -1, 110, MIN, MAX);
        taken(state, "addRemand, all days", (x, v) -> x.addRemand(v, 0, 109), 2, 3);
    }

    /** Promises 14, 16 and 43: "1 to 42", "1 to 28, or 0 for a recall until the end", "1 to 42". */
    private static void awardsAndRecalls() {
        taken(State.CUSTODY, "award", TermReckoner::award, 1, 2, 41, 42);
        refused(State.CUSTODY, "award", ARGUMENT, TermReckoner::award, 0, -1, 43, MIN, MAX);
        refused(State.RECALL_FOR_DAYS, "award", ARGUMENT, TermReckoner::award, 0, -1, 43, MIN, MAX);
        taken(State.LICENCE, "recall", TermReckoner::recall, 0, 1, 27, 28);
        refused(State.LICENCE, "recall", ARGUMENT, TermReckoner::recall, -1, 29, MIN, MAX);
        Tried whatIf = TermReckoner::lastReleaseWithAward;
        taken(State.CUSTODY, "lastReleaseWithAward", whatIf, 1, 2, 41, 42);
        refused(State.CUSTODY, "lastReleaseWithAward", ARGUMENT, whatIf, 0, -1, 43, MIN, MAX);
        taken(State.FULL_IN_CUSTODY, "lastReleaseWithAward", whatIf, 1, 42);
        refused(State.FULL_IN_CUSTODY, "lastReleaseWithAward", ARGUMENT, whatIf, 0, 43);
    }

    /** Promise 15: "from 1 to the days of the award that were not given back before"; 3 are left of award 0. */
    private static void giveBack() {
        State state = State.RECALL_FOR_DAYS;
        Tried days = (x, v) -> x.giveBack(0, v);
        taken(state, "giveBack, days", days, 1, 2, 3);
        refused(state, "giveBack, days", ARGUMENT, days, 0, -1, 4, 5, 42, MIN, MAX);
        Check.due("giveBack of all", state.make().giveBack(0, 3), 0);
        Check.due("giveBack of all but one", state.make().giveBack(0, 2), 1);
        Tried afterAll = (x, v) -> {
            x.giveBack(0, 3);
            return x.giveBack(0, v);
        };
        for (int value : list(0, 1, -1, MIN, MAX)) {
            Check.argument("giveBack of " + value + " when none is left", () -> afterAll.with(state.make(), value));
        }
        Tried award = (x, v) -> x.giveBack(v, 1);
        refused(State.NEW, "giveBack, award", INDEX, award, 0, -1, 1, MIN, MAX);
        taken(state, "giveBack, award", award, 0);
        refused(state, "giveBack, award", INDEX, award, -1, 1, 7, 8, MIN, MAX);
        taken(State.FULL_IN_CUSTODY, "giveBack, award", award, 0, 7);
        refused(State.FULL_IN_CUSTODY, "giveBack, award", INDEX, award, -1, 8, MIN, MAX);
    }

    /** Promises 13, 20 to 32 and 44: "if there is no such term". */
    private static void terms() {
        terms("quash", TermReckoner::quash);
        terms("parentOf", TermReckoner::parentOf);
        terms("chainLength", TermReckoner::chainLength);
        terms("descendants", TermReckoner::descendants);
        terms("start", TermReckoner::start);
        terms("length", TermReckoner::length);
        terms("totalLength", TermReckoner::totalLength);
        terms("custodialPart", TermReckoner::custodialPart);
        terms("credit", TermReckoner::credit);
        terms("creditByMerging", TermReckoner::creditByMerging);
        terms("addedDays", TermReckoner::addedDays);
        terms("releaseDay", TermReckoner::releaseDay);
        terms("releaseDayByServing", TermReckoner::releaseDayByServing);
        terms("endDay", TermReckoner::endDay);
        terms("lastReleaseWithout", TermReckoner::lastReleaseWithout);
    }

    private static void terms(String name, Tried tried) {
        refused(State.NEW, name, INDEX, tried, 0, 1, -1, MIN, MAX);
        if (!name.equals("parentOf")) {
            taken(State.CUSTODY, name, tried, 0, 3);
        }
        taken(State.CUSTODY, name, tried, 1, 2);
        refused(State.CUSTODY, name, INDEX, tried, -1, 5, 9, 10, 32, 64, MIN, MAX);
        refused(State.FULL_IN_CUSTODY, name, INDEX, tried, -1, 10, 32, MIN, MAX);
        refused(State.CUSTODY, name + " of a quashed term", "IllegalStateException", tried, 4);
        refused(State.ALL_QUASHED, name + " of a quashed term", "IllegalStateException", tried, 0, 1);
    }

    /** Promises 18 and 19: a term "which can be quashed". */
    private static void termsThatCanBeQuashed() {
        quashedToo("kindOf", TermReckoner::kindOf);
        quashedToo("isQuashed", (x, v) -> Check.bit(x.isQuashed(v)));
    }

    private static void quashedToo(String name, Tried tried) {
        refused(State.NEW, name, INDEX, tried, 0, 1, -1, MIN, MAX);
        taken(State.CUSTODY, name, tried, 0, 1, 2, 3, 4);
        refused(State.CUSTODY, name, INDEX, tried, -1, 5, 9, 10, 32, MIN, MAX);
        taken(State.ALL_QUASHED, name, tried, 0, 1);
        refused(State.ALL_QUASHED, name, INDEX, tried, -1, 2, MIN, MAX);
        taken(State.FULL_IN_CUSTODY, name, tried, 0, 9);
        refused(State.FULL_IN_CUSTODY, name, INDEX, tried, -1, 10, MIN, MAX);
    }

    /** Promise 37: "the position in this order, from 0"; only terms that are not quashed have one. */
    private static void positions() {
        Tried position = TermReckoner::termByRelease;
        refused(State.NEW, "termByRelease", INDEX, position, 0, -1, 1, MIN, MAX);
        taken(State.CUSTODY, "termByRelease", position, 0, 1, 2, 3);
        refused(State.CUSTODY, "termByRelease", INDEX, position, -1, 4, 5, 10, MIN, MAX);
        refused(State.ALL_QUASHED, "termByRelease", INDEX, position, 0, -1, 1, 2, MIN, MAX);
        taken(State.FULL_IN_CUSTODY, "termByRelease", position, 0, 8);
        refused(State.FULL_IN_CUSTODY, "termByRelease", INDEX, position, -1, 9, 10, MIN, MAX);
    }

    /** Promises 41 and 42: "if there is no such award or term"; a term can be quashed. */
    private static void awards() {
        Tried award = TermReckoner::awardDays;
        refused(State.NEW, "awardDays", INDEX, award, 0, -1, 1, MIN, MAX);
        taken(State.CUSTODY, "awardDays", award, 0);
        refused(State.CUSTODY, "awardDays", INDEX, award, -1, 1, 7, 8, MIN, MAX);
        taken(State.FULL_ON_LICENCE, "awardDays", award, 0, 7);
        refused(State.FULL_ON_LICENCE, "awardDays", INDEX, award, -1, 8, MIN, MAX);
        Tried concerning = (x, v) -> Check.bit(x.concerns(v, 0));
        taken(State.CUSTODY, "concerns, award", concerning, 0);
        refused(State.CUSTODY, "concerns, award", INDEX, concerning, -1, 1, 7, 8, MIN, MAX);
        taken(State.FULL_ON_LICENCE, "concerns, award", concerning, 0, 7);
        refused(State.FULL_ON_LICENCE, "concerns, award", INDEX, concerning, -1, 8, MIN, MAX);
        Tried term = (x, v) -> Check.bit(x.concerns(0, v));
        taken(State.CUSTODY, "concerns, term", term, 0, 4);
        refused(State.CUSTODY, "concerns, term", INDEX, term, -1, 5, 10, 32, 64, MIN, MAX);
        taken(State.FULL_ON_LICENCE, "concerns, term", term, 0, 9);
        refused(State.FULL_ON_LICENCE, "concerns, term", INDEX, term, -1, 10, 32, MIN, MAX);
        refused(State.LICENCE, "concerns without awards", INDEX, concerning, 0, -1, 1, MIN, MAX);
    }

    /** Promise 47: "a day, from 0, before the current day". */
    private static void historyDays() {
        Tried day = TermReckoner::statusOn;
        refused(State.NEW, "statusOn", ARGUMENT, day, 0, -1, 1, MIN, MAX);
        taken(State.CUSTODY, "statusOn", day, 0, 1, 108, 109);
        refused(State.CUSTODY, "statusOn", ARGUMENT, day, -1, 110, 111, 14609, MIN, MAX);
        taken(State.LAST_DAY_IN_CUSTODY, "statusOn", day, 0, 14608);
        refused(State.LAST_DAY_IN_CUSTODY, "statusOn", ARGUMENT, day, -1, 14609, 14610, MIN, MAX);
    }

    /** Promise 49: "if there is no character at this index"; the output is "f100 c10", or empty. */
    private static void outputIndexes() {
        Tried index = TermReckoner::outputAt;
        refused(State.NEW, "outputAt", INDEX, index, 0, -1, 1, MIN, MAX);
        taken(State.CUSTODY, "outputAt", index, 0, 7);
        refused(State.CUSTODY, "outputAt", INDEX, index, -1, 8, 9, MIN, MAX);
        Check.due("the first sign", State.CUSTODY.make().outputAt(0), 'f');
        Check.due("the space", State.CUSTODY.make().outputAt(4), ' ');
        Check.due("the last sign", State.CUSTODY.make().outputAt(7), '0');
    }
}
