import java.time.LocalDate;

/** Promises 1 to 7: a new object, and the calendar; every day and every number of months later is in EdgeTests. */
public final class CalendarTests {
    private static final LocalDate DAY_0 = LocalDate.of(2000, 1, 1);
    private static final int LAST_DAY = 36524;

    public static void main(String[] args) {
        promise1NewObject();
        promises2And3NumbersOfDays();
        promises2And3NoSuchDay();
        promises4To6PartsOfEveryDay();
        promises4To6OutOfRange();
        promise7MonthsAfter();
        promise7OutOfRange();
        Check.finish("CalendarTests");
    }

    private static void promise1NewObject() {
        TermReckoner x = new TermReckoner();
        Check.due("today of a new object", x.today(), 0);
        Check.due("termCount of a new object", x.termCount(), 0);
        Check.due("status of a new object", x.status(), TermReckoner.FREE);
        Check.due("recallCount of a new object", x.recallCount(), 0);
        Check.due("servedDays of a new object", x.servedDays(), 0);
        Check.due("licenceDays of a new object", x.licenceDays(), 0);
        Check.due("daysInCustodyLeft of a new object", x.daysInCustodyLeft(), 0);
        Check.due("isConsistent of a new object", x.isConsistent(), true);
        Check.index("awardDays(0) of a new object", () -> x.awardDays(0));
        Check.index("kindOf(0) of a new object", () -> x.kindOf(0));
        Check.index("outputAt(0) of a new object", () -> x.outputAt(0));
        TermReckoner other = new TermReckoner();
        other.impose(TermReckoner.FULL, 1, 0);
        other.advance(3);
        Check.due("another object's terms are its own", x.termCount(), 0);
        Check.due("another object's day is its own", x.today(), 0);
    }

    /** A new object for each day, because its answers are free after its 512th call. */
    private static void promises2And3NumbersOfDays() {
        for (int day = 0; day <= LAST_DAY; day++) {
            TermReckoner x = new TermReckoner();
            LocalDate date = DAY_0.plusDays(day);
            int year = date.getYear();
            int month = date.getMonthValue();
            int inMonth = date.getDayOfMonth();
            Check.due("dayNumber of " + date, x.dayNumber(year, month, inMonth), day);
            Check.due("dayNumberByMonths of " + date, x.dayNumberByMonths(year, month, inMonth), day);
        }
    }

    private static void promises2And3NoSuchDay() {
        int[][] none = {
            {1999, 12, 31}, {2100, 1, 1}, {2000, 0, 1}, {2000, 13, 1}, {2000, 1, 0}, {2000, 1, 32},
            {2000, 2, 30}, {2001, 2, 29}, {2099, 2, 29}, {2004, 2, 30}, {2000, 4, 31}, {2000, 6, 31},
            {2000, 9, 31}, {2000, 11, 31}, {2000, 12, 32}, {2000, 3, -1}, {-1, 1, 1}, {2000, -1, 1},
            {Integer.MIN_VALUE, 1, 1}, {Integer.MAX_VALUE, 1, 1}, {2000, Integer.MAX_VALUE, 1},
            {2000, Integer.MIN_VALUE, 1}, {2000, 1, Integer.MAX_VALUE}, {2000, 1, Integer.MIN_VALUE},
        };
        TermReckoner x = new TermReckoner();
        for (int[] d : none) {
            String date = "(" + d[0] + ", " + d[1] + ", " + d[2] + ")";
            Check.argument("dayNumber" + date, () -> x.dayNumber(d[0], d[1], d[2]));
            Check.argument("dayNumberByMonths" + date, () -> x.dayNumberByMonths(d[0], d[1], d[2]));
        }
    }

    private static void promises4To6PartsOfEveryDay() {
        for (int day = 0; day <= LAST_DAY; day++) {
            TermReckoner x = new TermReckoner();
            LocalDate date = DAY_0.plusDays(day);
            Check.due("yearOf(" + day + ")", x.yearOf(day), date.getYear());
            Check.due("monthOf(" + day + ")", x.monthOf(day), date.getMonthValue());
            Check.due("dayOfMonth(" + day + ")", x.dayOfMonth(day), date.getDayOfMonth());
        }
    }

    private static void promises4To6OutOfRange() {
        TermReckoner x = new TermReckoner();
        for (int day : new int[] {-1, LAST_DAY + 1, Integer.MIN_VALUE, Integer.MAX_VALUE}) {
            Check.argument("yearOf(" + day + ")", () -> x.yearOf(day));
            Check.argument("monthOf(" + day + ")", () -> x.monthOf(day));
            Check.argument("dayOfMonth(" + day + ")", () -> x.dayOfMonth(day));
        }
    }

    private static void promise7MonthsAfter() {
        TermReckoner x = new TermReckoner();
        Check.due("31 January to 29 February", x.monthsAfter(30, 1), 59);
        Check.due("31 January to 28 February", x.monthsAfter(30, 13), 424);
        Check.due("29 February, 48 months later", x.monthsAfter(59, 48), 59 + 1461);
        Check.due("29 February, 12 months later", x.monthsAfter(59, 12), 424);
        Check.due("0 months", x.monthsAfter(LAST_DAY, 0), LAST_DAY);
        Check.due("to the last day", x.monthsAfter(LAST_DAY - 31, 1), LAST_DAY - 1);
    }

    private static void promise7OutOfRange() {
        TermReckoner x = new TermReckoner();
        Check.argument("monthsAfter(-1, 1)", () -> x.monthsAfter(-1, 1));
        Check.argument("monthsAfter(36525, 0)", () -> x.monthsAfter(LAST_DAY + 1, 0));
        Check.argument("monthsAfter(0, -1)", () -> x.monthsAfter(0, -1));
        Check.argument("monthsAfter(0, 61)", () -> x.monthsAfter(0, 61));
        Check.due("monthsAfter(0, 60)", x.monthsAfter(0, 60), 1827);
        Check.argument("monthsAfter(36494, 1)", () -> x.monthsAfter(LAST_DAY - 30, 1));
        Check.argument("monthsAfter(max, max)", () -> x.monthsAfter(Integer.MAX_VALUE, Integer.MAX_VALUE));
        Check.argument("monthsAfter(0, min)", () -> x.monthsAfter(0, Integer.MIN_VALUE));
        Check.argument("monthsAfter(36500, 60)", () -> x.monthsAfter(36500, 60));
    }
}
