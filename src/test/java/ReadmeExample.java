public final class ReadmeExample {
    public static void main(String[] args) {
        TermReckoner prisoner = new TermReckoner();
        prisoner.advance(prisoner.dayNumber(2000, 3, 1));

        // Half of 12 months, less 20 days on remand, and then two thirds of 3 months.
        int first = prisoner.impose(TermReckoner.HALF, 12, 0);
        int second = prisoner.imposeConsecutive(first, TermReckoner.TWO_THIRDS, 3, 0);
        System.out.println("credit: " + prisoner.addRemand(first, 40, 59));

        // 10 added days, of which 4 are given back.
        int award = prisoner.award(10);
        System.out.println("added days left: " + prisoner.giveBack(award, 4));
        print(prisoner, "release", prisoner.lastRelease());
        print(prisoner, "end", prisoner.lastEnd());
        print(prisoner, "release without the second term", prisoner.lastReleaseWithout(second));

        // On licence from the release on, and recalled for 14 days.
        System.out.println("days served: " + prisoner.advance(prisoner.daysInCustodyLeft()));
        System.out.println("on licence: " + (prisoner.status() == TermReckoner.ON_LICENCE));
        print(prisoner, "end of the recall", prisoner.recall(14));
        prisoner.advance(20);
        try {
            prisoner.award(5);
        } catch (IllegalStateException e) {
            System.out.println("no award: the prisoner is not in custody");
        }

        StringBuilder history = new StringBuilder();
        int length = prisoner.writeHistory();
        for (int i = 0; i < length; i++) {
            history.append(prisoner.outputAt(i));
        }
        System.out.println("history: " + history);
    }

    private static void print(TermReckoner prisoner, String what, int day) {
        System.out.println(what + ": day " + day + ", which is "
                + prisoner.yearOf(day) + "-" + prisoner.monthOf(day) + "-" + prisoner.dayOfMonth(day));
    }
}
