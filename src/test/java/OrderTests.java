/**
 * "If several exceptions of a method apply, the one that is listed first is thrown": each method with more than
 * one exception, and each set of its exceptions that can apply at once. No such call may change anything.
 */
public final class OrderTests {
    private static final int MIN = Integer.MIN_VALUE;
    private static final int MAX = Integer.MAX_VALUE;
    private static final String INDEX = "IndexOutOfBoundsException";
    private static final String ARGUMENT = "IllegalArgumentException";
    private static final String STATE = "IllegalStateException";
    private static final String MISSING = "NoSuchElementException";

    /** Kinds, months and days of which at least one is wrong. */
    private static final int[][] WRONG_SENTENCES = {
        {-1, 1, 1}, {4, 1, 1}, {0, -1, 1}, {0, 61, 1}, {0, 1, -1}, {0, 1, 100}, {0, 0, 0}, {3, 0, 0},
        {MIN, MIN, MIN}, {MAX, MAX, MAX}, {0, MIN, 1}, {0, 1, MAX},
    };

    /** First and last days of which at least one is wrong on any day up to 110. */
    private static final int[][] WRONG_PERIODS = {
        {-1, 5}, {5, 4}, {0, 110}, {110, 110}, {MIN, MIN}, {MAX, MAX}, {MAX, MIN}, {MIN, MAX}, {0, -1},
    };

    public static void main(String[] args) {
        advance();
        impose();
        imposeConsecutiveToNone();
        imposeConsecutiveWithWrongArguments();
        imposeConsecutiveWithSeveralStates();
        addRemandToNone();
        addRemandWithWrongDays();
        addRemandWithSeveralStates();
        award();
        giveBack();
        recall();
        parentOf();
        concerns();
        lastReleaseWithAward();
        lastReleaseWithout();
        Check.finish("OrderTests");
    }

    private static void advance() {
        for (int days : new int[] {0, -1, 401, MIN, MAX}) {
            String call = "advance(" + days + ")";
            Snapshot.refused(State.LAST_DAY_FREE, call, x -> x.advance(days), ARGUMENT);
            Snapshot.refused(State.LAST_DAY_IN_CUSTODY, call, x -> x.advance(days), ARGUMENT);
            Check.argument(call + " on day 14300", () -> Scene.at(14300).advance(days));
        }
        Snapshot.refused(State.LAST_DAY_FREE, "advance(1)", x -> x.advance(1), STATE);
        Check.state("advance(400) on day 14300", () -> Scene.at(14300).advance(400));
    }

    private static void impose() {
        for (int[] w : WRONG_SENTENCES) {
            String call = "impose" + text(w);
            Snapshot.refused(State.FULL_IN_CUSTODY, call, x -> x.impose(w[0], w[1], w[2]), ARGUMENT);
            Snapshot.refused(State.FULL_ON_LICENCE, call, x -> x.impose(w[0], w[1], w[2]), ARGUMENT);
        }
        Snapshot.refused(State.FULL_IN_CUSTODY, "impose(0, 1, 1)", x -> x.impose(0, 1, 1), STATE);
        Snapshot.refused(State.FULL_ON_LICENCE, "impose(3, 60, 99)", x -> x.impose(3, 60, 99), STATE);
    }

    /** No parent comes before a wrong argument and before ten terms. */
    private static void imposeConsecutiveToNone() {
        for (int[] w : WRONG_SENTENCES) {
            for (int parent : new int[] {-1, 5, MIN, MAX}) {
                String call = "imposeConsecutive to " + parent + " with " + text(w);
                State.Use use = x -> x.imposeConsecutive(parent, w[0], w[1], w[2]);
                Snapshot.refused(State.NEW, call, use, INDEX);
                Snapshot.refused(State.CUSTODY, call, use, INDEX);
            }
            Snapshot.refused(State.FULL_IN_CUSTODY, "imposeConsecutive to 10 with " + text(w),
                    x -> x.imposeConsecutive(10, w[0], w[1], w[2]), INDEX);
        }
        Snapshot.refused(State.FULL_IN_CUSTODY, "imposeConsecutive to 10, an eleventh term",
                x -> x.imposeConsecutive(10, 0, 1, 0), INDEX);
        Snapshot.refused(State.FULL_IN_CUSTODY, "imposeConsecutive to -1, an eleventh term",
                x -> x.imposeConsecutive(-1, 0, 1, 0), INDEX);
    }

    /** A wrong argument comes before ten terms, a quashed parent and a released parent. */
    private static void imposeConsecutiveWithWrongArguments() {
        for (int[] w : WRONG_SENTENCES) {
            Snapshot.refused(State.FULL_IN_CUSTODY, "imposeConsecutive, an eleventh, with " + text(w),
                    x -> x.imposeConsecutive(1, w[0], w[1], w[2]), ARGUMENT);
            Snapshot.refused(State.CUSTODY, "imposeConsecutive to a quashed term with " + text(w),
                    x -> x.imposeConsecutive(4, w[0], w[1], w[2]), ARGUMENT);
            Snapshot.refused(State.LICENCE, "imposeConsecutive to a released term with " + text(w),
                    x -> x.imposeConsecutive(0, w[0], w[1], w[2]), ARGUMENT);
            Snapshot.refused(State.FULL_IN_CUSTODY, "imposeConsecutive, an eleventh, to a quashed one, " + text(w),
                    x -> x.imposeConsecutive(9, w[0], w[1], w[2]), ARGUMENT);
        }
    }

    private static void imposeConsecutiveWithSeveralStates() {
        Snapshot.refused(State.FULL_IN_CUSTODY, "imposeConsecutive, an eleventh",
                x -> x.imposeConsecutive(1, 0, 1, 0), STATE);
        Snapshot.refused(State.FULL_IN_CUSTODY, "imposeConsecutive, an eleventh, to a released term",
                x -> x.imposeConsecutive(0, 0, 1, 0), STATE);
        Snapshot.refused(State.FULL_IN_CUSTODY, "imposeConsecutive, an eleventh, to a quashed term",
                x -> x.imposeConsecutive(9, 0, 1, 0), STATE);
        Snapshot.refused(State.CUSTODY, "imposeConsecutive to a quashed term",
                x -> x.imposeConsecutive(4, 0, 1, 0), STATE);
        Snapshot.refused(State.LICENCE, "imposeConsecutive to a term that released today",
                x -> x.imposeConsecutive(0, 0, 1, 0), STATE);
        Snapshot.refused(State.RECALL_FOR_DAYS, "imposeConsecutive to a released term in a recall",
                x -> x.imposeConsecutive(0, 0, 1, 0), STATE);
        Snapshot.refused(State.FREE_AGAIN, "imposeConsecutive to a term that is over",
                x -> x.imposeConsecutive(0, 0, 1, 0), STATE);
    }

    /** No such term comes before wrong days and before eight periods. */
    private static void addRemandToNone() {
        for (int[] w : WRONG_PERIODS) {
            for (int term : new int[] {-1, 5, MIN, MAX}) {
                String call = "addRemand to " + term + " of " + text(w);
                Snapshot.refused(State.NEW, call, x -> x.addRemand(term, w[0], w[1]), INDEX);
                Snapshot.refused(State.CUSTODY, call, x -> x.addRemand(term, w[0], w[1]), INDEX);
            }
            Snapshot.refused(State.FULL_IN_CUSTODY, "addRemand, a ninth, to 10 of " + text(w),
                    x -> x.addRemand(10, w[0], w[1]), INDEX);
        }
        Snapshot.refused(State.FULL_IN_CUSTODY, "addRemand, a ninth, to 10", x -> x.addRemand(10, 0, 0), INDEX);
    }

    /** Wrong days come before a quashed term, a term of an earlier day and eight periods. */
    private static void addRemandWithWrongDays() {
        for (int[] w : WRONG_PERIODS) {
            Snapshot.refused(State.CUSTODY, "addRemand to a quashed term of " + text(w),
                    x -> x.addRemand(4, w[0], w[1]), ARGUMENT);
            Snapshot.refused(State.CUSTODY, "addRemand to a term of an earlier day of " + text(w),
                    x -> x.addRemand(0, w[0], w[1]), ARGUMENT);
            Snapshot.refused(State.FULL_IN_CUSTODY, "addRemand, a ninth, of " + text(w),
                    x -> x.addRemand(8, w[0], w[1]), ARGUMENT);
            Snapshot.refused(State.FULL_ON_LICENCE, "addRemand, a ninth, to a quashed term of " + text(w),
                    x -> x.addRemand(9, w[0], w[1]), ARGUMENT);
        }
    }

    private static void addRemandWithSeveralStates() {
        Snapshot.refused(State.CUSTODY, "addRemand to a quashed term", x -> x.addRemand(4, 0, 0), STATE);
        Snapshot.refused(State.CUSTODY, "addRemand to a term of an earlier day", x -> x.addRemand(0, 0, 0), STATE);
        Snapshot.refused(State.CUSTODY, "addRemand to its follower", x -> x.addRemand(1, 0, 0), STATE);
        Snapshot.refused(State.FULL_IN_CUSTODY, "addRemand, a ninth", x -> x.addRemand(8, 0, 0), STATE);
        Snapshot.refused(State.FULL_IN_CUSTODY, "addRemand, a ninth, quashed", x -> x.addRemand(9, 0, 0), STATE);
        Snapshot.refused(State.FULL_IN_CUSTODY, "addRemand, a ninth, earlier", x -> x.addRemand(0, 0, 0), STATE);
        Snapshot.refused(State.FULL_ON_LICENCE, "addRemand, all three", x -> x.addRemand(9, 0, 0), STATE);
    }

    private static void award() {
        for (int days : new int[] {0, -1, 43, MIN, MAX}) {
            String call = "award(" + days + ")";
            Snapshot.refused(State.NEW, call, x -> x.award(days), ARGUMENT);
            Snapshot.refused(State.LICENCE, call, x -> x.award(days), ARGUMENT);
            Snapshot.refused(State.FREE_AGAIN, call, x -> x.award(days), ARGUMENT);
            Snapshot.refused(State.FULL_IN_CUSTODY, call, x -> x.award(days), ARGUMENT);
            Snapshot.refused(State.FULL_ON_LICENCE, call, x -> x.award(days), ARGUMENT);
        }
        for (State state : new State[] {State.NEW, State.LICENCE, State.FREE_AGAIN, State.ALL_QUASHED,
            State.FULL_IN_CUSTODY, State.FULL_ON_LICENCE, State.LAST_DAY_FREE, State.LAST_DAY_ON_LICENCE}) {
            Snapshot.refused(state, "award(1)", x -> x.award(1), STATE);
            Snapshot.refused(state, "award(42)", x -> x.award(42), STATE);
        }
    }

    private static void giveBack() {
        for (int days : new int[] {0, -1, 43, MIN, MAX}) {
            for (int award : new int[] {-1, 8, MIN, MAX}) {
                String call = "giveBack(" + award + ", " + days + ")";
                Snapshot.refused(State.NEW, call, x -> x.giveBack(award, days), INDEX);
                Snapshot.refused(State.CUSTODY, call, x -> x.giveBack(award, days), INDEX);
                Snapshot.refused(State.FULL_IN_CUSTODY, call, x -> x.giveBack(award, days), INDEX);
            }
            Snapshot.refused(State.NEW, "giveBack without awards", x -> x.giveBack(0, days), INDEX);
            Snapshot.refused(State.CUSTODY, "giveBack of one more", x -> x.giveBack(1, days), INDEX);
        }
    }

    private static void recall() {
        State[] states = {State.NEW, State.CUSTODY, State.RECALL_FOR_DAYS, State.RECALL_UNTIL_THE_END,
            State.FREE_AGAIN, State.ALL_QUASHED, State.FULL_IN_CUSTODY, State.FULL_ON_LICENCE};
        for (State state : states) {
            for (int days : new int[] {-1, 29, MIN, MAX}) {
                Snapshot.refused(state, "recall(" + days + ")", x -> x.recall(days), ARGUMENT);
            }
            for (int days : new int[] {0, 1, 28}) {
                Snapshot.refused(state, "recall(" + days + ")", x -> x.recall(days), STATE);
            }
        }
    }

    /** A quashed term was independent or not: it is quashed first of all. */
    private static void parentOf() {
        Snapshot.refused(State.CUSTODY, "parentOf a quashed term", x -> x.parentOf(4), STATE);
        Snapshot.refused(State.ALL_QUASHED, "parentOf a quashed term", x -> x.parentOf(0), STATE);
        Snapshot.refused(State.ALL_QUASHED, "parentOf a quashed follower", x -> x.parentOf(1), STATE);
        Snapshot.refused(State.CUSTODY, "parentOf an independent term", x -> x.parentOf(0), MISSING);
        Snapshot.refused(State.CUSTODY, "parentOf another one", x -> x.parentOf(3), MISSING);
        Snapshot.refused(State.RECALL_UNTIL_THE_END, "parentOf one of two", x -> x.parentOf(1), MISSING);
    }

    private static void concerns() {
        for (int award : new int[] {-1, 1, 8, MIN, MAX}) {
            for (int term : new int[] {-1, 5, 10, MIN, MAX}) {
                Snapshot.refused(State.CUSTODY, "concerns(" + award + ", " + term + ")",
                        x -> Check.bit(x.concerns(award, term)), INDEX);
            }
        }
    }

    private static void lastReleaseWithAward() {
        State[] states = {State.NEW, State.LICENCE, State.FREE_AGAIN, State.ALL_QUASHED, State.FULL_ON_LICENCE,
            State.LAST_DAY_FREE, State.LAST_DAY_ON_LICENCE};
        for (State state : states) {
            for (int days : new int[] {0, -1, 43, MIN, MAX}) {
                String call = "lastReleaseWithAward(" + days + ")";
                Snapshot.refused(state, call, x -> x.lastReleaseWithAward(days), ARGUMENT);
            }
            Snapshot.refused(state, "lastReleaseWithAward(1)", x -> x.lastReleaseWithAward(1), STATE);
            Snapshot.refused(state, "lastReleaseWithAward(42)", x -> x.lastReleaseWithAward(42), STATE);
        }
    }

    /** Where there is no other term: no such term, then quashed already, then none is left. */
    private static void lastReleaseWithout() {
        for (int term : new int[] {-1, 2, MIN, MAX}) {
            String call = "lastReleaseWithout(" + term + ")";
            Snapshot.refused(State.NEW, call, x -> x.lastReleaseWithout(term), INDEX);
            Snapshot.refused(State.ALL_QUASHED, call, x -> x.lastReleaseWithout(term), INDEX);
            Snapshot.refused(State.LICENCE, call, x -> x.lastReleaseWithout(term), INDEX);
        }
        Snapshot.refused(State.ALL_QUASHED, "lastReleaseWithout(0)", x -> x.lastReleaseWithout(0), STATE);
        Snapshot.refused(State.ALL_QUASHED, "lastReleaseWithout(1)", x -> x.lastReleaseWithout(1), STATE);
        Snapshot.refused(State.LICENCE, "without the quashed one", x -> x.lastReleaseWithout(1), STATE);
        Snapshot.refused(State.LICENCE, "without the only other", x -> x.lastReleaseWithout(0), MISSING);
        Snapshot.refused(State.FREE_AGAIN, "without the only term", x -> x.lastReleaseWithout(0), MISSING);
        Snapshot.refused(State.RECALL_FOR_DAYS, "without the recalled term", x -> x.lastReleaseWithout(0), MISSING);
    }

    private static String text(int[] arguments) {
        StringBuilder text = new StringBuilder("(");
        for (int a : arguments) {
            text.append(text.length() > 1 ? ", " : "").append(a);
        }
        return text.append(')').toString();
    }
}
