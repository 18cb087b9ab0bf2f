import java.util.Arrays;
import java.util.NoSuchElementException;

/** Reckons prison sentences: terms, remand, added days, licence, recall and the days served. */
public final class TermReckoner {
    public static final int HALF = 0;
    public static final int TWO_THIRDS = 1;
    public static final int FULL = 2;
    public static final int DETENTION = 3;
    public static final int FREE = 0;
    public static final int ON_LICENCE = 1;
    public static final int IN_CUSTODY = 2;

    private static final int NONE = -1;
    private static final int LAST_DAY = 36524;
    private static final int LAST_CURRENT_DAY = 14609;
    private static final int MAX_MONTHS = 60;
    private static final int MAX_DAYS = 99;
    private static final int MAX_ADVANCE = 400;
    private static final int MAX_AWARD = 42;
    private static final int MAX_RECALL = 28;
    private static final int MAX_TERMS = 10;
    private static final int MAX_REMANDS = 8;
    private static final int MAX_AWARDS = 8;
    private static final int MAX_RECALLS = 6;

    private final Terms terms = new Terms();
    private final Remands remands = new Remands();
    private final Awards awards = new Awards();
    private final LatestRecall latestRecall = new LatestRecall();
    private final DaySet served = new DaySet();
    private final DaySet licensed = new DaySet();
    private final DaySet marks = new DaySet();
    private final StringBuilder output = new StringBuilder();
    private int currentDay;
    private int servedCount;
    private int licenceCount;

    public TermReckoner() {
    }

    // ---- calendar

    public int dayNumber(int year, int month, int dayOfMonth) throws IllegalArgumentException {
        checkDate(year, month, dayOfMonth);
        return Dates.numberOf(year, month, dayOfMonth);
    }

    public int dayNumberByMonths(int year, int month, int dayOfMonth) throws IllegalArgumentException {
        checkDate(year, month, dayOfMonth);
        return Dates.numberByAdding(year, month, dayOfMonth);
    }

    public int yearOf(int day) throws IllegalArgumentException {
        checkDay(day);
        return Dates.yearAt(day);
    }

    public int monthOf(int day) throws IllegalArgumentException {
        checkDay(day);
        return Dates.monthAt(day);
    }

    public int dayOfMonth(int day) throws IllegalArgumentException {
        checkDay(day);
        return Dates.dayInMonthAt(day);
    }

    public int monthsAfter(int day, int months) throws IllegalArgumentException {
        checkDay(day);
        if (months < 0 || months > MAX_MONTHS) {
            throw new IllegalArgumentException();
        }
        int later = Dates.later(day, months);
        if (later > LAST_DAY) {
            throw new IllegalArgumentException();
        }
        return later;
    }

    // ---- time

    public int today() {
        return currentDay;
    }

    public int advance(int days) throws IllegalArgumentException, IllegalStateException {
        if (days < 1 || days > MAX_ADVANCE) {
            throw new IllegalArgumentException();
        }
        if (currentDay + days > LAST_CURRENT_DAY) {
            throw new IllegalStateException();
        }
        // Passing days move no release day and no end (remand days lie in the settled past), so
        // the days that pass are served days first, licence days next and free days last.
        int until = currentDay + days;
        int custodyUntil = within(currentDay, custodyEnd(), until);
        int licenceUntil = within(custodyUntil, greatestEnd(), until);
        served.mark(currentDay, custodyUntil - 1);
        licensed.mark(custodyUntil, licenceUntil - 1);
        int newlyServed = custodyUntil - currentDay;
        servedCount += newlyServed;
        licenceCount += licenceUntil - custodyUntil;
        currentDay = until;
        return newlyServed;
    }

    // ---- changes

    public int impose(int kind, int months, int days) throws IllegalArgumentException, IllegalStateException {
        checkSentence(kind, months, days);
        checkRoomForTerm();
        return addTerm(NONE, kind, months, days);
    }

    public int imposeConsecutive(int parent, int kind, int months, int days)
            throws IndexOutOfBoundsException, IllegalArgumentException, IllegalStateException {
        checkTerm(parent);
        checkSentence(kind, months, days);
        checkRoomForTerm();
        if (terms.quashed[parent] || releaseIn(parent) <= currentDay) {
            throw new IllegalStateException();
        }
        return addTerm(parent, kind, months, days);
    }

    public int addRemand(int term, int firstDay, int lastDay)
            throws IndexOutOfBoundsException, IllegalArgumentException, IllegalStateException {
        checkTerm(term);
        if (firstDay < 0 || lastDay < firstDay || lastDay >= currentDay) {
            throw new IllegalArgumentException();
        }
        if (terms.quashed[term] || terms.imposedOn[term] != currentDay || remands.count >= MAX_REMANDS) {
            throw new IllegalStateException();
        }
        remands.add(term, firstDay, lastDay);
        settle();
        latestRecall.lowerLimit(greatestEnd());
        return terms.creditDays[term];
    }

    public int quash(int term) throws IndexOutOfBoundsException, IllegalStateException {
        checkStandingTerm(term);
        int moved = terms.remove(term);
        settle();
        latestRecall.lowerLimit(greatestEnd());
        return moved;
    }

    public int award(int days) throws IllegalArgumentException, IllegalStateException {
        checkAwardDays(days);
        if (custodyEnd() <= currentDay || awards.count >= MAX_AWARDS) {
            throw new IllegalStateException();
        }
        int recall = recallIsRunning() ? latestRecall.number : NONE;
        return awards.add(days, termsUnreleased(), recall);
    }

    public int giveBack(int award, int days) throws IndexOutOfBoundsException, IllegalArgumentException {
        checkAward(award);
        if (days < 1 || days > awards.left[award]) {
            throw new IllegalArgumentException();
        }
        awards.left[award] -= days;
        return awards.left[award];
    }

    public int recall(int days) throws IllegalArgumentException, IllegalStateException {
        if (days < 0 || days > MAX_RECALL) {
            throw new IllegalArgumentException();
        }
        if (currentStatus() != ON_LICENCE || recallsMade() >= MAX_RECALLS) {
            throw new IllegalStateException();
        }
        latestRecall.replace(currentDay, days, greatestEnd());
        return latestRecallEnd();
    }

    // ---- terms

    public int termCount() {
        return terms.count;
    }

    public int kindOf(int term) throws IndexOutOfBoundsException {
        checkTerm(term);
        return terms.kind[term];
    }

    public boolean isQuashed(int term) throws IndexOutOfBoundsException {
        checkTerm(term);
        return terms.quashed[term];
    }

    public int parentOf(int term) throws IndexOutOfBoundsException, IllegalStateException, NoSuchElementException {
        checkStandingTerm(term);
        if (terms.parent[term] == NONE) {
            throw new NoSuchElementException();
        }
        return terms.parent[term];
    }

    public int chainLength(int term) throws IndexOutOfBoundsException, IllegalStateException {
        checkStandingTerm(term);
        return Integer.bitCount(terms.chain[term]);
    }

    public int descendants(int term) throws IndexOutOfBoundsException, IllegalStateException {
        checkStandingTerm(term);
        int found = 0;
        for (int t = 0; t < terms.count; t++) {
            if (t != term && !terms.quashed[t] && (terms.chain[t] & 1 << term) != 0) {
                found++;
            }
        }
        return found;
    }

    public int start(int term) throws IndexOutOfBoundsException, IllegalStateException {
        checkStandingTerm(term);
        return terms.startDay[term];
    }

    public int length(int term) throws IndexOutOfBoundsException, IllegalStateException {
        checkStandingTerm(term);
        return terms.ownLength[term];
    }

    public int totalLength(int term) throws IndexOutOfBoundsException, IllegalStateException {
        checkStandingTerm(term);
        return terms.chainDays[term];
    }

    public int custodialPart(int term) throws IndexOutOfBoundsException, IllegalStateException {
        checkStandingTerm(term);
        return terms.chainCustody[term];
    }

    public int credit(int term) throws IndexOutOfBoundsException, IllegalStateException {
        checkStandingTerm(term);
        return terms.creditDays[term];
    }

    public int creditByMerging(int term) throws IndexOutOfBoundsException, IllegalStateException {
        checkStandingTerm(term);
        return mergedCredit(term);
    }

    public int addedDays(int term) throws IndexOutOfBoundsException, IllegalStateException {
        checkStandingTerm(term);
        return awards.daysForChain(terms.chain[term]);
    }

    public int releaseDay(int term) throws IndexOutOfBoundsException, IllegalStateException {
        checkStandingTerm(term);
        return releaseIn(term);
    }

    public int releaseDayByServing(int term) throws IndexOutOfBoundsException, IllegalStateException {
        checkStandingTerm(term);
        return servedRelease(term);
    }

    public int endDay(int term) throws IndexOutOfBoundsException, IllegalStateException {
        checkStandingTerm(term);
        return terms.endOf(term);
    }

    // ---- the prisoner

    public int status() {
        return currentStatus();
    }

    public int lastRelease() throws NoSuchElementException {
        checkAnyTermStands();
        return greatestRelease(0, 0);
    }

    public int lastEnd() throws NoSuchElementException {
        checkAnyTermStands();
        return greatestEnd();
    }

    public int decidingTerm() throws NoSuchElementException {
        checkAnyTermStands();
        int deciding = NONE;
        int greatest = NONE;
        for (int t = 0; t < terms.count; t++) {
            if (!terms.quashed[t] && releaseIn(t) > greatest) {
                greatest = releaseIn(t);
                deciding = t;
            }
        }
        return deciding;
    }

    public int termByRelease(int position) throws IndexOutOfBoundsException {
        for (int t = 0; t < terms.count; t++) {
            if (!terms.quashed[t] && placeByRelease(t) == position) {
                return t;
            }
        }
        throw new IndexOutOfBoundsException();
    }

    public int daysInCustodyLeft() {
        return Math.max(custodyEnd() - currentDay, 0);
    }

    public int recallCount() {
        return recallsMade();
    }

    public int recallEnd() throws NoSuchElementException {
        if (!recallIsRunning()) {
            throw new NoSuchElementException();
        }
        return latestRecallEnd();
    }

    public int awardDays(int award) throws IndexOutOfBoundsException {
        checkAward(award);
        return awards.left[award];
    }

    public boolean concerns(int award, int term) throws IndexOutOfBoundsException {
        checkAward(award);
        checkTerm(term);
        return (awards.concerned[award] & 1 << term) != 0;
    }

    // ---- what if

    public int lastReleaseWithAward(int days) throws IllegalArgumentException, IllegalStateException {
        checkAwardDays(days);
        if (custodyEnd() <= currentDay) {
            throw new IllegalStateException();
        }
        return greatestRelease(termsUnreleased(), days);
    }

    public int lastReleaseWithout(int term)
            throws IndexOutOfBoundsException, IllegalStateException, NoSuchElementException {
        checkStandingTerm(term);
        if (terms.standing() < 2) {
            throw new NoSuchElementException();
        }
        terms.remember();
        terms.remove(term);
        settle();
        int answer = greatestRelease(0, 0);
        terms.bringBack(term);
        settle();
        return answer;
    }

    // ---- history

    public int servedDays() {
        return servedCount;
    }

    public int licenceDays() {
        return licenceCount;
    }

    public int statusOn(int day) throws IllegalArgumentException {
        if (day < 0 || day >= currentDay) {
            throw new IllegalArgumentException();
        }
        return pastStatus(day);
    }

    public int writeHistory() {
        output.setLength(0);
        int runStart = 0;
        int runStatus = FREE;
        for (int day = 0; day < currentDay; day++) {
            int status = pastStatus(day);
            if (status != runStatus && day > runStart) {
                writeRun(runStatus, day - runStart);
                runStart = day;
            }
            runStatus = status;
        }
        if (currentDay > 0) {
            writeRun(runStatus, currentDay - runStart);
        }
        return output.length();
    }

    public char outputAt(int index) throws IndexOutOfBoundsException {
        if (index < 0 || index >= output.length()) {
            throw new IndexOutOfBoundsException();
        }
        return output.charAt(index);
    }

    public boolean isConsistent() {
        for (int t = 0; t < terms.count; t++) {
            if (!terms.quashed[t] && !termIsConsistent(t)) {
                return false;
            }
        }
        int custodyDays = 0;
        for (int day = 0; day < currentDay; day++) {
            if (pastStatus(day) == IN_CUSTODY) {
                custodyDays++;
            }
        }
        return custodyDays == servedCount;
    }

    // ---- checks of arguments and state

    private static void checkDate(int year, int month, int dayOfMonth) {
        if (!Dates.exists(year, month, dayOfMonth)) {
            throw new IllegalArgumentException();
        }
    }

    private static void checkDay(int day) {
        if (day < 0 || day > LAST_DAY) {
            throw new IllegalArgumentException();
        }
    }

    private static void checkSentence(int kind, int months, int days) {
        boolean inRange = kind >= HALF && kind <= DETENTION
                && months >= 0 && months <= MAX_MONTHS && days >= 0 && days <= MAX_DAYS;
        if (!inRange || (months == 0 && days == 0)) {
            throw new IllegalArgumentException();
        }
    }

    private static void checkAwardDays(int days) {
        if (days < 1 || days > MAX_AWARD) {
            throw new IllegalArgumentException();
        }
    }

    private void checkRoomForTerm() {
        if (terms.count >= MAX_TERMS) {
            throw new IllegalStateException();
        }
    }

    private void checkTerm(int term) {
        if (term < 0 || term >= terms.count) {
            throw new IndexOutOfBoundsException();
        }
    }

    private void checkStandingTerm(int term) {
        checkTerm(term);
        if (terms.quashed[term]) {
            throw new IllegalStateException();
        }
    }

    private void checkAnyTermStands() {
        if (terms.standing() == 0) {
            throw new NoSuchElementException();
        }
    }

    private void checkAward(int award) {
        if (award < 0 || award >= awards.count) {
            throw new IndexOutOfBoundsException();
        }
    }

    // ---- reckoning

    private static int within(int least, int value, int greatest) {
        return Math.min(Math.max(value, least), greatest);
    }

    private int addTerm(int parent, int kind, int months, int days) {
        int term = terms.add(parent, kind, months, days, currentDay);
        settle();
        return term;
    }

    /** Puts right what follows from the terms and their remand periods, after a change of these. */
    private void settle() {
        // By number, because the parent of a term always has a smaller number than the term.
        for (int t = 0; t < terms.count; t++) {
            if (!terms.quashed[t]) {
                terms.settleChain(t);
                terms.creditDays[t] = markedCredit(t);
            }
        }
    }

    private int markedCredit(int term) {
        marks.clear();
        for (int i = 0; i < remands.count; i++) {
            if (remands.belongsTo(terms.chain[term], i)) {
                marks.mark(remands.firstDay[i], remands.lastDay[i]);
            }
        }
        return Math.min(marks.sizeWithout(served), terms.chainDays[term]);
    }

    private int mergedCredit(int term) {
        int periods = remands.sort(terms.chain[term]);
        int found = 0;
        int from = 0;
        int to = NONE;
        for (int i = 0; i < periods; i++) {
            if (remands.sortedFirst[i] > to) {
                found += unservedDays(from, to);
                from = remands.sortedFirst[i];
                to = remands.sortedLast[i];
            } else {
                to = Math.max(to, remands.sortedLast[i]);
            }
        }
        found += unservedDays(from, to);
        return Math.min(found, terms.chainDays[term]);
    }

    private int unservedDays(int first, int last) {
        return last - first + 1 - served.sizeWithin(first, last);
    }

    private int releaseIn(int term) {
        return terms.releaseWith(term, awards.daysForChain(terms.chain[term]));
    }

    private int servedRelease(int term) {
        int custodyDays = terms.chainCustody[term];
        int licenceDaysLeft = terms.chainDays[term] - custodyDays;
        for (int k = terms.creditDays[term]; k > 0; k--) {
            if (custodyDays > 0) {
                custodyDays--;
            } else {
                licenceDaysLeft--;
            }
        }
        for (int a = awards.daysForChain(terms.chain[term]); a > 0; a--) {
            if (licenceDaysLeft > 0) {
                licenceDaysLeft--;
                custodyDays++;
            }
        }
        int day = terms.chainStart[term];
        for (int left = custodyDays; left > 0; left--) {
            day++;
        }
        return day;
    }

    private boolean termIsConsistent(int term) {
        int release = releaseIn(term);
        return terms.creditDays[term] == mergedCredit(term)
                && release == servedRelease(term) && release <= terms.endOf(term);
    }

    /** The greatest release day if an award of extra days concerned the terms of a mask; 0 without terms. */
    private int greatestRelease(int concerned, int extra) {
        int greatest = 0;
        for (int t = 0; t < terms.count; t++) {
            if (!terms.quashed[t]) {
                int more = (terms.chain[t] & concerned) != 0 ? extra : 0;
                int added = awards.daysForChain(terms.chain[t]) + more;
                greatest = Math.max(greatest, terms.releaseWith(t, added));
            }
        }
        return greatest;
    }

    private int greatestEnd() {
        int greatest = 0;
        for (int t = 0; t < terms.count; t++) {
            if (!terms.quashed[t]) {
                greatest = Math.max(greatest, terms.endOf(t));
            }
        }
        return greatest;
    }

    /** The terms that an award made now would concern, a bit for each. */
    private int termsUnreleased() {
        int mask = 0;
        for (int t = 0; t < terms.count; t++) {
            if (!terms.quashed[t] && releaseIn(t) > currentDay) {
                mask |= 1 << t;
            }
        }
        return mask;
    }

    private int placeByRelease(int term) {
        int place = 0;
        for (int t = 0; t < terms.count; t++) {
            if (!terms.quashed[t] && comesBefore(t, term)) {
                place++;
            }
        }
        return place;
    }

    private boolean comesBefore(int one, int other) {
        int byRelease = Integer.compare(releaseIn(one), releaseIn(other));
        if (byRelease != 0) {
            return byRelease < 0;
        }
        int byEnd = Integer.compare(terms.endOf(one), terms.endOf(other));
        return byEnd != 0 ? byEnd < 0 : one < other;
    }

    private int recallsMade() {
        return latestRecall.number + 1;
    }

    private int latestRecallEnd() {
        return latestRecall.endWith(awards.daysForRecall(latestRecall.number));
    }

    private boolean recallIsRunning() {
        return recallsMade() > 0 && latestRecallEnd() > currentDay;
    }

    /** The first day out of custody if the prisoner is in custody, else a day that is not in the future. */
    private int custodyEnd() {
        int release = greatestRelease(0, 0);
        return recallIsRunning() ? Math.max(release, latestRecallEnd()) : release;
    }

    private int currentStatus() {
        if (custodyEnd() > currentDay) {
            return IN_CUSTODY;
        }
        return greatestEnd() > currentDay ? ON_LICENCE : FREE;
    }

    private int pastStatus(int day) {
        if (served.has(day)) {
            return IN_CUSTODY;
        }
        return licensed.has(day) ? ON_LICENCE : FREE;
    }

    private void writeRun(int status, int days) {
        if (output.length() > 0) {
            output.append(' ');
        }
        char letter = status == IN_CUSTODY ? 'c' : status == ON_LICENCE ? 'l' : 'f';
        output.append(letter);
        output.append(days);
    }

    /** The calendar of the years 2000 to 2099, in which every fourth year is a leap year. */
    private static final class Dates {
        private static final int FIRST_YEAR = 2000;
        private static final int LAST_YEAR = 2099;
        private static final int DAYS_IN_FOUR_YEARS = 1461;

        static boolean exists(int year, int month, int dayInMonth) {
            return year >= FIRST_YEAR && year <= LAST_YEAR && month >= 1 && month <= 12
                    && dayInMonth >= 1 && dayInMonth <= daysIn(year, month);
        }

        static int daysIn(int year, int month) {
            if (month == 2) {
                return year % 4 == 0 ? 29 : 28;
            }
            return month == 4 || month == 6 || month == 9 || month == 11 ? 30 : 31;
        }

        static int numberOf(int year, int month, int dayInMonth) {
            return yearStart(year) + daysBefore(year, month) + dayInMonth - 1;
        }

        static int yearStart(int year) {
            int years = year - FIRST_YEAR;
            return 365 * years + (years + 3) / 4;
        }

        static int numberByAdding(int year, int month, int dayInMonth) {
            int days = dayInMonth - 1;
            for (int y = FIRST_YEAR; y <= year; y++) {
                int monthsBefore = y < year ? 12 : month - 1;
                for (int m = 1; m <= monthsBefore; m++) {
                    days += daysIn(y, m);
                }
            }
            return days;
        }

        /** The days of the year before a month; the fraction steps as months of 31 and 30 days do. */
        static int daysBefore(int year, int month) {
            int withFullFebruary = (367 * month - 362) / 12;
            if (month <= 2) {
                return withFullFebruary;
            }
            return withFullFebruary - (year % 4 == 0 ? 1 : 2);
        }

        static int yearAt(int day) {
            int dayInFourYears = day % DAYS_IN_FOUR_YEARS;
            int yearInFour = dayInFourYears < 366 ? 0 : 1 + (dayInFourYears - 366) / 365;
            return FIRST_YEAR + 4 * (day / DAYS_IN_FOUR_YEARS) + yearInFour;
        }

        static int monthAt(int day) {
            int year = yearAt(day);
            int dayInYear = day - yearStart(year);
            int month = 1;
            while (month < 12 && daysBefore(year, month + 1) <= dayInYear) {
                month++;
            }
            return month;
        }

        static int dayInMonthAt(int day) {
            return day - numberOf(yearAt(day), monthAt(day), 1) + 1;
        }

        /** The day that is some months later; it can lie after the last day of the calendar. */
        static int later(int day, int months) {
            int firstOfMonth = numberOf(yearAt(day), monthAt(day), 1);
            int monthsFromJanuary = monthAt(day) - 1 + months;
            int year = yearAt(day) + monthsFromJanuary / 12;
            int month = monthsFromJanuary % 12 + 1;
            return numberOf(year, month, Math.min(day - firstOfMonth + 1, daysIn(year, month)));
        }
    }

    /** The terms in rows, and what follows from them for the chain of each term that is not quashed. */
    private static final class Terms {
        final int[] kind = new int[MAX_TERMS];
        final int[] months = new int[MAX_TERMS];
        final int[] days = new int[MAX_TERMS];
        final int[] imposedOn = new int[MAX_TERMS];
        final int[] parent = new int[MAX_TERMS];
        /** The start of a term while it is independent; of no meaning while it has a parent. */
        final int[] independentStart = new int[MAX_TERMS];
        final boolean[] quashed = new boolean[MAX_TERMS];
        int count;

        final int[] chain = new int[MAX_TERMS];
        final int[] startDay = new int[MAX_TERMS];
        final int[] ownLength = new int[MAX_TERMS];
        final int[] chainStart = new int[MAX_TERMS];
        final int[] chainDays = new int[MAX_TERMS];
        final int[] chainCustody = new int[MAX_TERMS];
        final int[] creditDays = new int[MAX_TERMS];

        final int[] parentBefore = new int[MAX_TERMS];

        int add(int parentTerm, int itsKind, int itsMonths, int itsDays, int day) {
            kind[count] = itsKind;
            months[count] = itsMonths;
            days[count] = itsDays;
            imposedOn[count] = day;
            parent[count] = parentTerm;
            independentStart[count] = day;
            count++;
            return count - 1;
        }

        int standing() {
            int found = 0;
            for (int t = 0; t < count; t++) {
                if (!quashed[t]) {
                    found++;
                }
            }
            return found;
        }

        /** Takes a term out of all chains and answers how many terms followed it. */
        int remove(int term) {
            int moved = 0;
            for (int t = 0; t < count; t++) {
                if (!quashed[t] && parent[t] == term) {
                    parent[t] = parent[term];
                    independentStart[t] = independentStart[term];
                    moved++;
                }
            }
            quashed[term] = true;
            return moved;
        }

        /** No starts are kept, because a term is given its start anew when it loses its last parent. */
        void remember() {
            System.arraycopy(parent, 0, parentBefore, 0, MAX_TERMS);
        }

        void bringBack(int term) {
            System.arraycopy(parentBefore, 0, parent, 0, MAX_TERMS);
            quashed[term] = false;
        }

        void settleChain(int t) {
            int p = parent[t];
            boolean follows = p >= 0 && p < t;
            startDay[t] = follows ? startDay[p] + ownLength[p] : independentStart[t];
            ownLength[t] = Dates.later(startDay[t], months[t]) - startDay[t] + days[t];
            int custody = custodyOf(kind[t], ownLength[t]);
            chain[t] = 1 << t | (follows ? chain[p] : 0);
            chainStart[t] = follows ? chainStart[p] : startDay[t];
            chainDays[t] = ownLength[t] + (follows ? chainDays[p] : 0);
            chainCustody[t] = custody + (follows ? chainCustody[p] : 0);
        }

        static int custodyOf(int kind, int length) {
            switch (kind) {
                case HALF:
                    return (length + 1) / 2;
                case TWO_THIRDS:
                    return (2 * length + 2) / 3;
                case DETENTION:
                    return Math.min(Math.max((length + 1) / 2, 30), length);
                default:
                    return length;
            }
        }

        int releaseWith(int term, int added) {
            int custodyLeft = Math.max(chainCustody[term] - creditDays[term], 0);
            int daysLeft = chainDays[term] - creditDays[term];
            return chainStart[term] + Math.min(daysLeft, custodyLeft + added);
        }

        int endOf(int term) {
            return chainStart[term] + chainDays[term] - creditDays[term];
        }
    }

    /** The remand periods, each with the number of the term to which it belongs. */
    private static final class Remands {
        final int[] owner = new int[MAX_REMANDS];
        final int[] firstDay = new int[MAX_REMANDS];
        final int[] lastDay = new int[MAX_REMANDS];
        final int[] sortedFirst = new int[MAX_REMANDS];
        final int[] sortedLast = new int[MAX_REMANDS];
        int count;

        void add(int term, int first, int last) {
            owner[count] = term;
            firstDay[count] = first;
            lastDay[count] = last;
            count++;
        }

        boolean belongsTo(int chain, int period) {
            return (chain & 1 << owner[period]) != 0;
        }

        /** Puts the periods of a chain into the sorted rows, by their first days, and counts them. */
        int sort(int chain) {
            int sorted = 0;
            for (int i = 0; i < count; i++) {
                if (belongsTo(chain, i)) {
                    insert(sorted, firstDay[i], lastDay[i]);
                    sorted++;
                }
            }
            return sorted;
        }

        void insert(int sorted, int first, int last) {
            int at = sorted;
            while (at > 0 && sortedFirst[at - 1] > first) {
                sortedFirst[at] = sortedFirst[at - 1];
                sortedLast[at] = sortedLast[at - 1];
                at--;
            }
            sortedFirst[at] = first;
            sortedLast[at] = last;
        }
    }

    /** The awards, each with the days that are left, a bit for each term that it concerns, and its recall. */
    private static final class Awards {
        final int[] left = new int[MAX_AWARDS];
        final int[] concerned = new int[MAX_AWARDS];
        final int[] recallNumber = new int[MAX_AWARDS];
        int count;

        int add(int days, int terms, int recall) {
            left[count] = days;
            concerned[count] = terms;
            recallNumber[count] = recall;
            count++;
            return count - 1;
        }

        int daysForChain(int chain) {
            int days = 0;
            for (int a = 0; a < count; a++) {
                if ((concerned[a] & chain) != 0) {
                    days += left[a];
                }
            }
            return days;
        }

        int daysForRecall(int recall) {
            int days = 0;
            for (int a = 0; a < count; a++) {
                if (recallNumber[a] == recall) {
                    days += left[a];
                }
            }
            return days;
        }
    }

    /** The latest recall; no earlier one can be running, so none is kept. */
    private static final class LatestRecall {
        int number = NONE;
        int madeOn;
        int days;
        int limit;

        void replace(int day, int itsDays, int itsLimit) {
            number++;
            madeOn = day;
            days = itsDays;
            limit = itsLimit;
        }

        void lowerLimit(int lastEndDay) {
            limit = Math.min(limit, lastEndDay);
        }

        int endWith(int addedDays) {
            return days == 0 ? limit : Math.min(limit, madeOn + days + addedDays);
        }
    }

    /** A set of past days, a bit for each, so that a whole history stays small. */
    private static final class DaySet {
        private static final int WORDS = (LAST_CURRENT_DAY >> 6) + 1;

        final long[] words = new long[WORDS];

        void clear() {
            Arrays.fill(words, 0L);
        }

        boolean has(int day) {
            int word = day >> 6;
            return word >= 0 && word < WORDS && (words[word] >>> (day & 63) & 1L) != 0L;
        }

        void mark(int first, int last) {
            for (int w = Math.max(first, 0) >> 6; w < WORDS && w <= last >> 6; w++) {
                words[w] |= bitsWithin(w, first, last);
            }
        }

        int sizeWithin(int first, int last) {
            int size = 0;
            for (int w = Math.max(first, 0) >> 6; w < WORDS && w <= last >> 6; w++) {
                size += Long.bitCount(words[w] & bitsWithin(w, first, last));
            }
            return size;
        }

        int sizeWithout(DaySet other) {
            int size = 0;
            for (int w = 0; w < WORDS; w++) {
                size += Long.bitCount(words[w] & ~other.words[w]);
            }
            return size;
        }

        /** The bits in a word for the days from a first to a last one. */
        static long bitsWithin(int word, int first, int last) {
            int low = Math.max(first - (word << 6), 0);
            int high = Math.min(last - (word << 6), 63);
            return low > high ? 0L : -1L << low & -1L >>> (63 - high);
        }
    }
}
