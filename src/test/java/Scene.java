/** Beginnings and readings that several tests share. */
final class Scene {
    private Scene() {
    }

    /** A calculator without terms whose current day is a given one. */
    static TermReckoner at(int day) {
        TermReckoner x = new TermReckoner();
        pass(x, day);
        return x;
    }

    static void pass(TermReckoner x, int days) {
        for (int left = days; left > 0; left -= 400) {
            x.advance(Math.min(left, 400));
        }
    }

    /** What writeHistory writes, read back sign by sign. */
    static String history(TermReckoner x) {
        int length = x.writeHistory();
        StringBuilder text = new StringBuilder();
        for (int i = 0; i < length; i++) {
            text.append(x.outputAt(i));
        }
        return text.toString();
    }

    /** On licence on day 50, the release day of a term that ends on day 99; days 0 to 28 were remand. */
    static TermReckoner onLicence() {
        TermReckoner x = at(30);
        x.impose(TermReckoner.HALF, 0, 98);
        x.addRemand(0, 0, 28);
        x.advance(20);
        return x;
    }
}
