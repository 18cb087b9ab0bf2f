/** Promises 45 to 50: the history and the check of the data. */
public final class HistoryTests {
    private static final int HALF = TermReckoner.HALF;
    private static final int FULL = TermReckoner.FULL;

    public static void main(String[] args) {
        promises45To47Days();
        theHistoryStaysAsItWas();
        promise47WrongDays();
        promise48ExampleOfTheDocument();
        promise48RunsAreAsLongAsPossible();
        promise48ReplacesTheOutput();
        promise49OutputAt();
        promise50IsConsistent();
        upToTheLastDay();
        Check.finish("HistoryTests");
    }

    private static void promises45To47Days() {
        TermReckoner x = Scene.at(3);
        x.impose(HALF, 0, 4);
        x.advance(10);
        int[] want = {0, 0, 0, 2, 2, 1, 1, 0, 0, 0, 0, 0, 0};
        for (int day = 0; day < want.length; day++) {
            Check.due("statusOn(" + day + ")", x.statusOn(day), want[day]);
        }
        Check.due("servedDays", x.servedDays(), 2);
        Check.due("licenceDays", x.licenceDays(), 2);
        x.impose(FULL, 0, 5);
        Check.due("servedDays before a day passes", x.servedDays(), 2);
        x.advance(1);
        Check.due("servedDays after it", x.servedDays(), 3);
        Check.due("statusOn the day that passed", x.statusOn(13), TermReckoner.IN_CUSTODY);
    }

    private static void theHistoryStaysAsItWas() {
        TermReckoner x = new TermReckoner();
        x.impose(HALF, 0, 10);
        x.advance(8);
        x.quash(0);
        Check.due("servedDays of a quashed term", x.servedDays(), 5);
        Check.due("licenceDays of a quashed term", x.licenceDays(), 3);
        x.advance(2);
        Check.due("history", Scene.history(x), "c5 l3 f2");
        x.impose(HALF, 0, 10);
        x.award(4);
        x.advance(7);
        x.giveBack(0, 4);
        x.advance(1);
        Check.due("days given back are served all the same", Scene.history(x), "c5 l3 f2 c7 l1");
    }

    private static void promise47WrongDays() {
        TermReckoner x = new TermReckoner();
        Check.argument("statusOn(0) on day 0", () -> x.statusOn(0));
        x.advance(400);
        for (int day : new int[] {-1, 400, 401, Integer.MIN_VALUE, Integer.MAX_VALUE}) {
            Check.argument("statusOn(" + day + ")", () -> x.statusOn(day));
        }
        Check.due("statusOn(399)", x.statusOn(399), TermReckoner.FREE);
    }

    private static void promise48ExampleOfTheDocument() {
        TermReckoner x = Scene.at(10);
        x.impose(HALF, 0, 72);
        x.advance(40);
        Check.due("the example of the document", Scene.history(x), "f10 c36 l4");
        Check.due("its length", x.writeHistory(), 10);
    }

    private static void promise48RunsAreAsLongAsPossible() {
        TermReckoner x = new TermReckoner();
        Check.due("on day 0", Scene.history(x), "");
        x.advance(1);
        Check.due("on day 1", Scene.history(x), "f1");
        x.advance(63);
        x.advance(64);
        Check.due("one run of several calls", Scene.history(x), "f128");
        x.impose(FULL, 0, 1);
        x.advance(1);
        x.impose(FULL, 0, 1);
        x.advance(1);
        Check.due("one run of two terms", Scene.history(x), "f128 c2");
        x.impose(HALF, 0, 2);
        x.advance(2);
        Check.due("runs of a day", Scene.history(x), "f128 c3 l1");
        x.advance(400);
        Check.due("a free run again", Scene.history(x), "f128 c3 l1 f400");
    }

    private static void promise48ReplacesTheOutput() {
        TermReckoner x = new TermReckoner();
        x.advance(1);
        x.impose(FULL, 0, 1);
        x.advance(2);
        Check.due("first", x.writeHistory(), 8);
        x.advance(9);
        x.advance(400);
        Check.due("the output stays until it is written again", x.outputAt(7), '1');
        Check.index("and so does its end", () -> x.outputAt(8));
        Check.due("second", Scene.history(x), "f1 c1 f410");
        TermReckoner y = new TermReckoner();
        y.writeHistory();
        Check.index("the output of day 0 is empty", () -> y.outputAt(0));
    }

    private static void promise49OutputAt() {
        TermReckoner x = new TermReckoner();
        x.advance(12);
        Check.index("before anything is written", () -> x.outputAt(0));
        x.writeHistory();
        Check.due("outputAt(0)", x.outputAt(0), 'f');
        Check.due("outputAt(1)", x.outputAt(1), '1');
        Check.due("outputAt(2)", x.outputAt(2), '2');
        for (int index : new int[] {-1, 3, Integer.MIN_VALUE, Integer.MAX_VALUE}) {
            Check.index("outputAt(" + index + ")", () -> x.outputAt(index));
        }
    }

    private static void promise50IsConsistent() {
        TermReckoner x = Scene.at(300);
        x.impose(HALF, 24, 0);
        x.addRemand(0, 10, 50);
        x.addRemand(0, 40, 90);
        x.imposeConsecutive(0, FULL, 6, 0);
        x.addRemand(1, 80, 120);
        Check.due("with credit", x.isConsistent(), true);
        x.award(42);
        x.advance(400);
        x.quash(0);
        Check.due("after an award and a quashed term", x.isConsistent(), true);
        x.advance(400);
        x.quash(1);
        x.advance(400);
        Check.due("without terms", x.isConsistent(), true);
    }

    private static void upToTheLastDay() {
        TermReckoner x = Scene.at(14600);
        for (int t = 0; t < 10; t++) {
            x.impose(HALF, 0, 2 * t + 1);
        }
        x.award(42);
        Check.due("all nine days", x.advance(9), 9);
        Check.due("served", x.servedDays(), 9);
        Check.due("history", Scene.history(x), "f14600 c9");
        Check.due("statusOn the last day", x.statusOn(14608), TermReckoner.IN_CUSTODY);
        Check.due("consistent", x.isConsistent(), true);
        Check.due("daysInCustodyLeft", x.daysInCustodyLeft(), 10);
    }
}
