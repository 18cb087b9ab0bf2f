import java.time.LocalDate;
import java.time.temporal.ChronoUnit;
import java.util.ArrayList;
import java.util.Comparator;
import java.util.HashSet;
import java.util.List;
import java.util.NoSuchElementException;
import java.util.Set;

/**
 * The document once more, as slow and as literal as can be: days pass one by one, nothing is kept that
 * can be found anew, and a "what if" is done on a copy. The tests compare the class with it.
 */
final class NaiveReckoner {
    private static final LocalDate DAY_0 = LocalDate.of(2000, 1, 1);
    private static final int LAST_DAY = 36524;

    private static final class Term {
        int kind;
        int months;
        int days;
        int imposedOn;
        int startIfIndependent;
        int parent;
        boolean quashed;
        List<int[]> remand = new ArrayList<>();

        Term copy() {
            Term t = new Term();
            t.kind = kind;
            t.months = months;
            t.days = days;
            t.imposedOn = imposedOn;
            t.startIfIndependent = startIfIndependent;
            t.parent = parent;
            t.quashed = quashed;
            t.remand = new ArrayList<>(remand);
            return t;
        }
    }

    private static final class Award {
        int left;
        Set<Integer> terms = new HashSet<>();
        int recall = -1;

        Award copy() {
            Award a = new Award();
            a.left = left;
            a.terms = new HashSet<>(terms);
            a.recall = recall;
            return a;
        }
    }

    private static final class Recall {
        int madeOn;
        int days;
        int limit;
    }

    private final List<Term> terms = new ArrayList<>();
    private final List<Award> awards = new ArrayList<>();
    private final List<Recall> recalls = new ArrayList<>();
    private final List<Integer> history = new ArrayList<>();
    private String output = "";
    private int today;

    private NaiveReckoner copy() {
        NaiveReckoner c = new NaiveReckoner();
        for (Term t : terms) {
            c.terms.add(t.copy());
        }
        for (Award a : awards) {
            c.awards.add(a.copy());
        }
        for (Recall r : recalls) {
            Recall s = new Recall();
            s.madeOn = r.madeOn;
            s.days = r.days;
            s.limit = r.limit;
            c.recalls.add(s);
        }
        c.history.addAll(history);
        c.today = today;
        return c;
    }

    // ---- calendar

    int dayNumber(int year, int month, int dayOfMonth) {
        for (int day = 0; day <= LAST_DAY; day++) {
            if (yearOf(day) == year && monthOf(day) == month && dayOfMonth(day) == dayOfMonth) {
                return day;
            }
        }
        throw new IllegalArgumentException();
    }

    int yearOf(int day) {
        return date(day).getYear();
    }

    int monthOf(int day) {
        return date(day).getMonthValue();
    }

    int dayOfMonth(int day) {
        return date(day).getDayOfMonth();
    }

    int monthsAfter(int day, int months) {
        if (day < 0 || day > LAST_DAY || months < 0 || months > 60) {
            throw new IllegalArgumentException();
        }
        int later = (int) ChronoUnit.DAYS.between(DAY_0, DAY_0.plusDays(day).plusMonths(months));
        if (later > LAST_DAY) {
            throw new IllegalArgumentException();
        }
        return later;
    }

    private static LocalDate date(int day) {
        if (day < 0 || day > LAST_DAY) {
            throw new IllegalArgumentException();
        }
        return DAY_0.plusDays(day);
    }

    // ---- time and changes

    int today() {
        return today;
    }

    int advance(int days) {
        if (days < 1 || days > 400) {
            throw new IllegalArgumentException();
        }
        if (today + days > 14609) {
            throw new IllegalStateException();
        }
        int before = servedDays();
        int until = today + days;
        // The status can only change on a day on which something is over; it is found anew there.
        int status = status();
        int next = nextBoundary();
        while (today < until) {
            if (today == next) {
                status = status();
                next = nextBoundary();
            }
            history.add(status);
            today++;
        }
        return servedDays() - before;
    }

    /** The first future day that is a release day, an end day or the end of a recall. */
    private int nextBoundary() {
        int next = Integer.MAX_VALUE;
        for (int t = 0; t < terms.size(); t++) {
            if (!terms.get(t).quashed) {
                next = releaseDay(t) > today ? Math.min(next, releaseDay(t)) : next;
                next = endDay(t) > today ? Math.min(next, endDay(t)) : next;
            }
        }
        if (running()) {
            next = Math.min(next, endOfLatestRecall());
        }
        return next;
    }

    int impose(int kind, int months, int days) {
        sentence(kind, months, days);
        return add(-1, kind, months, days);
    }

    int imposeConsecutive(int parent, int kind, int months, int days) {
        term(parent);
        sentence(kind, months, days);
        if (terms.size() == 10 || terms.get(parent).quashed || releaseDay(parent) <= today) {
            throw new IllegalStateException();
        }
        return add(parent, kind, months, days);
    }

    private void sentence(int kind, int months, int days) {
        if (kind < 0 || kind > 3 || months < 0 || months > 60 || days < 0 || days > 99
                || months == 0 && days == 0) {
            throw new IllegalArgumentException();
        }
    }

    private int add(int parent, int kind, int months, int days) {
        if (terms.size() == 10) {
            throw new IllegalStateException();
        }
        Term t = new Term();
        t.kind = kind;
        t.months = months;
        t.days = days;
        t.imposedOn = today;
        t.startIfIndependent = today;
        t.parent = parent;
        terms.add(t);
        return terms.size() - 1;
    }

    int addRemand(int term, int firstDay, int lastDay) {
        term(term);
        if (firstDay < 0 || lastDay < firstDay || lastDay >= today) {
            throw new IllegalArgumentException();
        }
        int periods = 0;
        for (Term t : terms) {
            periods += t.remand.size();
        }
        Term t = terms.get(term);
        if (t.quashed || t.imposedOn != today || periods == 8) {
            throw new IllegalStateException();
        }
        t.remand.add(new int[] {firstDay, lastDay});
        lowerLimits();
        return credit(term);
    }

    int quash(int term) {
        Term gone = standing(term);
        int start = start(term);
        int moved = 0;
        for (Term t : terms) {
            if (!t.quashed && t.parent == term) {
                t.parent = gone.parent;
                t.startIfIndependent = start;
                moved++;
            }
        }
        gone.quashed = true;
        lowerLimits();
        return moved;
    }

    private void lowerLimits() {
        for (Recall r : recalls) {
            r.limit = Math.min(r.limit, lastEndOr0());
        }
    }

    int award(int days) {
        if (days < 1 || days > 42) {
            throw new IllegalArgumentException();
        }
        if (status() != 2 || awards.size() == 8) {
            throw new IllegalStateException();
        }
        addAward(days);
        return awards.size() - 1;
    }

    private void addAward(int days) {
        Award a = new Award();
        a.left = days;
        for (int t = 0; t < terms.size(); t++) {
            if (!terms.get(t).quashed && releaseDay(t) > today) {
                a.terms.add(t);
            }
        }
        if (running()) {
            a.recall = recalls.size() - 1;
        }
        awards.add(a);
    }

    int giveBack(int award, int days) {
        int left = awardDays(award);
        if (days < 1 || days > left) {
            throw new IllegalArgumentException();
        }
        awards.get(award).left = left - days;
        return left - days;
    }

    int recall(int days) {
        if (days < 0 || days > 28) {
            throw new IllegalArgumentException();
        }
        if (status() != 1 || recalls.size() == 6) {
            throw new IllegalStateException();
        }
        Recall r = new Recall();
        r.madeOn = today;
        r.days = days;
        r.limit = lastEnd();
        recalls.add(r);
        return recallEnd();
    }

    // ---- terms

    int termCount() {
        return terms.size();
    }

    private Term term(int term) {
        if (term < 0 || term >= terms.size()) {
            throw new IndexOutOfBoundsException();
        }
        return terms.get(term);
    }

    private Term standing(int term) {
        Term t = term(term);
        if (t.quashed) {
            throw new IllegalStateException();
        }
        return t;
    }

    int kindOf(int term) {
        return term(term).kind;
    }

    boolean isQuashed(int term) {
        return term(term).quashed;
    }

    int parentOf(int term) {
        int parent = standing(term).parent;
        if (parent < 0) {
            throw new NoSuchElementException();
        }
        return parent;
    }

    private List<Integer> chain(int term) {
        List<Integer> chain = new ArrayList<>();
        for (int t = term; t >= 0; t = terms.get(t).parent) {
            standing(t);
            chain.add(t);
        }
        return chain;
    }

    int chainLength(int term) {
        standing(term);
        return chain(term).size();
    }

    int descendants(int term) {
        standing(term);
        int n = 0;
        for (int t = 0; t < terms.size(); t++) {
            if (t != term && !terms.get(t).quashed && chain(t).contains(term)) {
                n++;
            }
        }
        return n;
    }

    int start(int term) {
        Term t = standing(term);
        if (t.parent < 0) {
            return t.startIfIndependent;
        }
        int parentStart = start(t.parent);
        return parentStart + spanFrom(parentStart, terms.get(t.parent));
    }

    private int spanFrom(int start, Term t) {
        return (int) ChronoUnit.DAYS.between(DAY_0.plusDays(start), DAY_0.plusDays(start).plusMonths(t.months))
                + t.days;
    }

    int length(int term) {
        return spanFrom(start(term), terms.get(term));
    }

    int totalLength(int term) {
        standing(term);
        int sum = 0;
        for (int t : chain(term)) {
            sum += length(t);
        }
        return sum;
    }

    int custodialPart(int term) {
        standing(term);
        int sum = 0;
        for (int t : chain(term)) {
            sum += part(terms.get(t).kind, length(t));
        }
        return sum;
    }

    private int part(int kind, int n) {
        int half = n / 2 + n % 2;
        switch (kind) {
            case 0:
                return half;
            case 1:
                return (int) Math.ceil(2.0 * n / 3.0 - 1e-9);
            case 2:
                return n;
            default:
                int part = half > 30 ? half : 30;
                return part > n ? n : part;
        }
    }

    int credit(int term) {
        standing(term);
        Set<Integer> found = new HashSet<>();
        for (int t : chain(term)) {
            for (int[] period : terms.get(t).remand) {
                for (int day = period[0]; day <= period[1]; day++) {
                    if (history.get(day) != 2) {
                        found.add(day);
                    }
                }
            }
        }
        return Math.min(found.size(), totalLength(term));
    }

    int addedDays(int term) {
        standing(term);
        int sum = 0;
        for (Award a : awards) {
            boolean concerns = false;
            for (int t : chain(term)) {
                concerns |= a.terms.contains(t);
            }
            sum += concerns ? a.left : 0;
        }
        return sum;
    }

    private int chainStart(int term) {
        List<Integer> chain = chain(term);
        return start(chain.get(chain.size() - 1));
    }

    int releaseDay(int term) {
        standing(term);
        int k = credit(term);
        int custody = Math.max(custodialPart(term) - k, 0) + addedDays(term);
        return chainStart(term) + Math.min(totalLength(term) - k, custody);
    }

    int endDay(int term) {
        standing(term);
        return chainStart(term) + totalLength(term) - credit(term);
    }

    // ---- the prisoner

    int status() {
        for (int t = 0; t < terms.size(); t++) {
            if (!terms.get(t).quashed && releaseDay(t) > today) {
                return 2;
            }
        }
        if (running()) {
            return 2;
        }
        return lastEndOr0() > today ? 1 : 0;
    }

    private List<Integer> ordered() {
        List<Integer> order = new ArrayList<>();
        for (int t = 0; t < terms.size(); t++) {
            if (!terms.get(t).quashed) {
                order.add(t);
            }
        }
        order.sort(Comparator.comparing(this::releaseDay).thenComparing(this::endDay).thenComparing(t -> t));
        return order;
    }

    private List<Integer> orderedOrNone() {
        List<Integer> order = ordered();
        if (order.isEmpty()) {
            throw new NoSuchElementException();
        }
        return order;
    }

    int lastRelease() {
        List<Integer> order = orderedOrNone();
        return releaseDay(order.get(order.size() - 1));
    }

    int lastEnd() {
        int end = 0;
        for (int t : orderedOrNone()) {
            end = Math.max(end, endDay(t));
        }
        return end;
    }

    private int lastEndOr0() {
        int end = 0;
        for (int t = 0; t < terms.size(); t++) {
            end = terms.get(t).quashed ? end : Math.max(end, endDay(t));
        }
        return end;
    }

    int decidingTerm() {
        int last = lastRelease();
        int t = 0;
        while (terms.get(t).quashed || releaseDay(t) != last) {
            t++;
        }
        return t;
    }

    int termByRelease(int position) {
        List<Integer> order = ordered();
        if (position < 0 || position >= order.size()) {
            throw new IndexOutOfBoundsException();
        }
        return order.get(position);
    }

    int daysInCustodyLeft() {
        NaiveReckoner later = copy();
        int days = 0;
        while (later.status() == 2) {
            int next = later.nextBoundary();
            days += next - later.today;
            later.today = next;
        }
        return days;
    }

    int recallCount() {
        return recalls.size();
    }

    private int endOfLatestRecall() {
        Recall r = recalls.get(recalls.size() - 1);
        if (r.days == 0) {
            return r.limit;
        }
        int end = r.madeOn + r.days;
        for (Award a : awards) {
            end += a.recall == recalls.size() - 1 ? a.left : 0;
        }
        return Math.min(end, r.limit);
    }

    private boolean running() {
        return !recalls.isEmpty() && endOfLatestRecall() > today;
    }

    int recallEnd() {
        if (!running()) {
            throw new NoSuchElementException();
        }
        return endOfLatestRecall();
    }

    int awardDays(int award) {
        if (award < 0 || award >= awards.size()) {
            throw new IndexOutOfBoundsException();
        }
        return awards.get(award).left;
    }

    boolean concerns(int award, int term) {
        awardDays(award);
        term(term);
        return awards.get(award).terms.contains(term);
    }

    // ---- what if

    int lastReleaseWithAward(int days) {
        if (days < 1 || days > 42) {
            throw new IllegalArgumentException();
        }
        if (status() != 2) {
            throw new IllegalStateException();
        }
        NaiveReckoner then = copy();
        then.addAward(days);
        return then.lastRelease();
    }

    int lastReleaseWithout(int term) {
        standing(term);
        NaiveReckoner then = copy();
        then.quash(term);
        return then.lastRelease();
    }

    // ---- history

    int servedDays() {
        return count(2);
    }

    int licenceDays() {
        return count(1);
    }

    private int count(int status) {
        int n = 0;
        for (int s : history) {
            n += s == status ? 1 : 0;
        }
        return n;
    }

    int statusOn(int day) {
        if (day < 0 || day >= today) {
            throw new IllegalArgumentException();
        }
        return history.get(day);
    }

    int writeHistory() {
        StringBuilder text = new StringBuilder();
        int day = 0;
        while (day < today) {
            int from = day;
            while (day < today && history.get(day).equals(history.get(from))) {
                day++;
            }
            text.append(text.length() == 0 ? "" : " ").append("flc".charAt(history.get(from))).append(day - from);
        }
        output = text.toString();
        return output.length();
    }

    char outputAt(int index) {
        if (index < 0 || index >= output.length()) {
            throw new IndexOutOfBoundsException();
        }
        return output.charAt(index);
    }
}
