import java.time.LocalDate;
import java.time.temporal.ChronoUnit;

/**
 * The boundary cases that the sentences of the section "Terms" name, other than ranges: what is rounded, what is
 * "at most" or "whichever is smaller", and what is so "after the current day" and no longer on that day.
 */
public final class EdgeTests {
    private static final int HALF = TermReckoner.HALF;
    private static final int TWO_THIRDS = TermReckoner.TWO_THIRDS;
    private static final int FULL = TermReckoner.FULL;
    private static final int DETENTION = TermReckoner.DETENTION;
    private static final int FREE = TermReckoner.FREE;
    private static final int ON_LICENCE = TermReckoner.ON_LICENCE;
    private static final int IN_CUSTODY = TermReckoner.IN_CUSTODY;

    public static void main(String[] args) {
        everyDayAndMonthLater();
        theDayOfTheMonthThatIsMissing();
        lengths();
        custodialPartsAreRoundedUp();
        custodialPartsOfTheLongestTerm();
        creditIsAtMostTheTotalLength();
        creditOfAChainIsAtMostItsTotalLength();
        aDayCountsOnceForEachTerm();
        periodsThatTouch();
        servedDaysAreNoRemandDays();
        creditAndCustodialPart();
        addedDaysAndTheEnd();
        Check.finish("EdgeTests");
    }

    /** "has the same day of the month, or is the last day of its month if that month has no such day" */
    private static void everyDayAndMonthLater() {
        LocalDate first = LocalDate.of(2000, 1, 1);
        for (int d = 0; d <= 36524; d++) {
            TermReckoner x = new TermReckoner();
            LocalDate date = first.plusDays(d);
            int day = d;
            for (int m = 0; m <= 60; m++) {
                int months = m;
                long want = first.until(date.plusMonths(months), ChronoUnit.DAYS);
                if (want <= 36524) {
                    Check.same("monthsAfter", day, months, x.monthsAfter(day, months), want);
                } else {
                    Check.argument("monthsAfter a day too late", () -> x.monthsAfter(day, months));
                }
            }
        }
    }

    private static void theDayOfTheMonthThatIsMissing() {
        TermReckoner x = new TermReckoner();
        int[][] dates = {
            {2000, 1, 28, 1, 2000, 2, 28}, {2000, 1, 29, 1, 2000, 2, 29}, {2000, 1, 30, 1, 2000, 2, 29},
            {2000, 1, 31, 1, 2000, 2, 29}, {2001, 1, 28, 1, 2001, 2, 28}, {2001, 1, 29, 1, 2001, 2, 28},
            {2001, 1, 31, 1, 2001, 2, 28}, {2000, 1, 31, 3, 2000, 4, 30}, {2000, 3, 31, 1, 2000, 4, 30},
            {2000, 3, 30, 1, 2000, 4, 30}, {2000, 12, 31, 2, 2001, 2, 28}, {2003, 12, 31, 2, 2004, 2, 29},
            {2000, 2, 29, 12, 2001, 2, 28}, {2000, 2, 29, 48, 2004, 2, 29}, {2000, 2, 29, 60, 2005, 2, 28},
            {2000, 2, 29, 1, 2000, 3, 29}, {2001, 2, 28, 36, 2004, 2, 28}, {2000, 12, 31, 1, 2001, 1, 31},
            {2000, 1, 31, 11, 2000, 12, 31}, {2000, 1, 31, 12, 2001, 1, 31}, {2000, 12, 1, 1, 2001, 1, 1},
            {2000, 11, 30, 1, 2000, 12, 30}, {2000, 11, 30, 2, 2001, 1, 30}, {2000, 5, 31, 0, 2000, 5, 31},
        };
        for (int[] d : dates) {
            int from = x.dayNumber(d[0], d[1], d[2]);
            String call = d[3] + " months after " + d[0] + "-" + d[1] + "-" + d[2];
            Check.due(call, x.monthsAfter(from, d[3]), x.dayNumber(d[4], d[5], d[6]));
        }
    }

    /** "the number of days from its start to the day that is its number of months after its start, plus" */
    private static void lengths() {
        int[][] cases = {
            {0, 0, 1, 1}, {0, 0, 99, 99}, {0, 1, 0, 31}, {0, 1, 99, 130}, {0, 60, 0, 1827}, {0, 60, 99, 1926},
            {27, 1, 0, 31}, {28, 1, 0, 31}, {29, 1, 0, 30}, {30, 1, 0, 29}, {31, 1, 0, 29}, {59, 1, 0, 29},
            {59, 60, 0, 1826}, {393, 1, 0, 31}, {394, 1, 0, 30}, {395, 1, 0, 29}, {396, 1, 0, 28}, {397, 1, 0, 28},
        };
        for (int[] c : cases) {
            TermReckoner x = Scene.at(c[0]);
            x.impose(FULL, c[1], c[2]);
            String term = c[1] + " months and " + c[2] + " days from day " + c[0];
            Check.due("length, " + term, x.length(0), c[3]);
            Check.due("endDay, " + term, x.endDay(0), c[0] + c[3]);
            x.imposeConsecutive(0, FULL, 0, 1);
            Check.due("the start after " + term, x.start(1), c[0] + c[3]);
        }
    }

    /** "n / 2 rounded up", "2 * n / 3 rounded up", "or 30, whichever is greater, but at most n" */
    private static void custodialPartsAreRoundedUp() {
        for (int n = 1; n <= 99; n++) {
            int half = 0;
            while (2 * half < n) {
                half++;
            }
            int thirds = 0;
            while (3 * thirds < 2 * n) {
                thirds++;
            }
            int detention = n <= 30 ? n : n <= 60 ? 30 : half;
            int[] want = {half, thirds, n, detention};
            TermReckoner x = new TermReckoner();
            for (int kind = HALF; kind <= DETENTION; kind++) {
                x.impose(kind, 0, n);
                Check.due("kind " + kind + " of " + n + " days", x.custodialPart(kind), want[kind]);
                Check.due("release of kind " + kind, x.releaseDay(kind), want[kind]);
            }
        }
    }

    private static void custodialPartsOfTheLongestTerm() {
        int[][] wants = {{963, 1284, 1926, 963}, {963, 1284, 1925, 963}, {962, 1283, 1924, 962}};
        for (int less = 0; less < 3; less++) {
            TermReckoner x = new TermReckoner();
            for (int kind = HALF; kind <= DETENTION; kind++) {
                x.impose(kind, 60, 99 - less);
                Check.due("kind " + kind + " of " + x.length(kind) + " days",
                        x.custodialPart(kind), wants[less][kind]);
            }
        }
    }

    /** "but at most the total length of the term" */
    private static void creditIsAtMostTheTotalLength() {
        int[] want = {4, 5, 5};
        for (int i = 0; i < 3; i++) {
            TermReckoner x = Scene.at(100);
            x.impose(HALF, 0, 5);
            Check.due("addRemand of " + (4 + i) + " days", x.addRemand(0, 50, 53 + i), want[i]);
            creditIs(x, 0, want[i]);
            Check.due("endDay", x.endDay(0), 105 - want[i]);
            Check.due("releaseDay", x.releaseDay(0), 100);
            Check.due("releaseDayByServing", x.releaseDayByServing(0), 100);
        }
    }

    private static void creditOfAChainIsAtMostItsTotalLength() {
        TermReckoner x = Scene.at(100);
        x.impose(FULL, 0, 5);
        x.imposeConsecutive(0, FULL, 0, 5);
        x.addRemand(0, 50, 56);
        creditIs(x, 0, 5);
        creditIs(x, 1, 7);
        Check.state("the parent has released", () -> x.imposeConsecutive(0, FULL, 0, 1));
        TermReckoner y = Scene.at(100);
        y.impose(FULL, 0, 5);
        y.imposeConsecutive(0, FULL, 0, 5);
        Check.due("nine days", y.addRemand(1, 0, 8), 9);
        Check.due("ten days", y.addRemand(1, 9, 9), 10);
        Check.due("eleven days", y.addRemand(1, 10, 10), 10);
        creditIs(y, 0, 0);
        Check.due("end of the chain", y.endDay(1), 100);
        y.quash(0);
        creditIs(y, 1, 5);
    }

    private static void creditIs(TermReckoner x, int term, int want) {
        Check.due("credit(" + term + ")", x.credit(term), want);
        Check.due("creditByMerging(" + term + ")", x.creditByMerging(term), want);
    }

    /** "A remand day counts once for each term that it may count for." */
    private static void aDayCountsOnceForEachTerm() {
        TermReckoner x = Scene.at(100);
        x.impose(FULL, 0, 50);
        x.imposeConsecutive(0, FULL, 0, 50);
        x.impose(FULL, 0, 50);
        x.imposeConsecutive(2, FULL, 0, 50);
        for (int term = 0; term < 3; term++) {
            x.addRemand(term, 10, 19);
        }
        creditIs(x, 0, 10);
        creditIs(x, 1, 10);
        creditIs(x, 2, 10);
        creditIs(x, 3, 10);
        x.quash(0);
        creditIs(x, 1, 10);
        x.quash(2);
        creditIs(x, 3, 0);
    }

    /** Periods that touch, lie in one another, begin or end together, or leave a day between them. */
    private static void periodsThatTouch() {
        int[][] cases = {
            {10, 19, 20, 29, 20}, {10, 19, 21, 29, 19}, {10, 19, 19, 29, 20}, {10, 19, 10, 19, 10},
            {10, 19, 10, 10, 10}, {10, 19, 19, 19, 10}, {10, 19, 12, 15, 10}, {10, 19, 5, 9, 15},
            {10, 19, 5, 10, 15}, {10, 19, 5, 8, 14}, {10, 19, 0, 98, 99}, {10, 10, 11, 11, 2}, {10, 10, 12, 12, 2},
            {0, 0, 98, 98, 2}, {63, 63, 64, 64, 2}, {0, 63, 64, 98, 99}, {0, 64, 63, 98, 99}, {60, 63, 65, 70, 10},
        };
        for (int[] c : cases) {
            for (int turned = 0; turned <= 2; turned += 2) {
                TermReckoner x = Scene.at(99);
                x.impose(FULL, 12, 0);
                x.addRemand(0, c[turned], c[turned + 1]);
                int got = x.addRemand(0, c[2 - turned], c[3 - turned]);
                Check.due(c[0] + " to " + c[1] + " and " + c[2] + " to " + c[3], got, c[4]);
                creditIs(x, 0, c[4]);
            }
        }
    }

    /** "and is not a served day" */
    private static void servedDaysAreNoRemandDays() {
        int[][] afterTen = {
            {9, 9, 1}, {9, 10, 1}, {10, 10, 0}, {10, 14, 0}, {14, 14, 0}, {14, 15, 1}, {15, 15, 1}, {9, 15, 2},
            {15, 19, 5}, {19, 20, 2}, {20, 20, 1}, {0, 299, 295}, {0, 0, 1}, {299, 299, 1},
        };
        remandDaysAre(10, HALF, 10, "f10 c5 l5 f280", afterTen);
        int[][] afterSixty = {
            {59, 59, 1}, {59, 60, 1}, {60, 60, 0}, {60, 69, 0}, {63, 63, 0}, {64, 64, 0}, {63, 64, 0}, {69, 69, 0},
            {69, 70, 1}, {70, 70, 1}, {59, 70, 2}, {0, 299, 290}, {64, 127, 58}, {128, 191, 64},
        };
        remandDaysAre(60, HALF, 20, "f60 c10 l10 f220", afterSixty);
        int[][] afterHundred = {
            {99, 99, 1}, {99, 100, 1}, {100, 100, 0}, {100, 198, 0}, {127, 128, 0}, {191, 192, 0}, {198, 198, 0},
            {198, 199, 1}, {199, 199, 1}, {99, 199, 2}, {50, 150, 50}, {150, 250, 52}, {0, 299, 201},
        };
        remandDaysAre(100, FULL, 99, "f100 c99 f101", afterHundred);
    }

    /** The remand days of periods that are added on day 300, after a term of some days from a first day on. */
    private static void remandDaysAre(int firstDay, int kind, int days, String history, int[][] cases) {
        for (int[] c : cases) {
            TermReckoner x = Scene.at(firstDay);
            x.impose(kind, 0, days);
            x.advance(300 - firstDay);
            Check.due("history", Scene.history(x), history);
            x.impose(FULL, 24, 0);
            Check.due("days " + c[0] + " to " + c[1] + " in " + history, x.addRemand(1, c[0], c[1]), c[2]);
            creditIs(x, 1, c[2]);
        }
    }

    /** "max(c - k, 0)": a credit of one less than the custodial part, of just as much, of more, and of all. */
    private static void creditAndCustodialPart() {
        int[][] cases = {
            {0, 60, 70}, {9, 51, 61}, {10, 50, 60}, {11, 50, 59}, {19, 50, 51}, {20, 50, 50}, {21, 50, 50},
        };
        for (int[] c : cases) {
            TermReckoner x = Scene.at(50);
            x.impose(HALF, 0, 20);
            if (c[0] > 0) {
                x.addRemand(0, 0, c[0] - 1);
            }
            Check.due("release with a credit of " + c[0], x.releaseDay(0), c[1]);
            Check.due("release by serving with a credit of " + c[0], x.releaseDayByServing(0), c[1]);
            Check.due("end with a credit of " + c[0], x.endDay(0), c[2]);
            int status = c[1] > 50 ? IN_CUSTODY : c[2] > 50 ? ON_LICENCE : FREE;
            Check.due("status with a credit of " + c[0], x.status(), status);
        }
    }

    /** "the smaller one of the numbers n - k and max(c - k, 0) + a": n is 20, c is 10. */
    private static void addedDaysAndTheEnd() {
        int[][] cases = {
            {0, 1, 61}, {0, 9, 69}, {0, 10, 70}, {0, 11, 70}, {0, 42, 70}, {4, 9, 65}, {4, 10, 66}, {4, 11, 66},
            {10, 1, 51}, {10, 9, 59}, {10, 10, 60}, {10, 11, 60}, {11, 8, 58}, {11, 9, 59}, {11, 10, 59},
            {19, 1, 51}, {19, 2, 51}, {20, 1, 50}, {20, 42, 50},
        };
        for (int[] c : cases) {
            TermReckoner x = Scene.at(50);
            x.impose(HALF, 0, 20);
            x.award(c[1]);
            if (c[0] > 0) {
                x.addRemand(0, 0, c[0] - 1);
            }
            String what = " with a credit of " + c[0] + " and " + c[1] + " added days";
            Check.due("release" + what, x.releaseDay(0), c[2]);
            Check.due("release by serving" + what, x.releaseDayByServing(0), c[2]);
            Check.due("end" + what, x.endDay(0), 70 - c[0]);
            Check.due("isConsistent" + what, x.isConsistent(), true);
        }
    }
}
