/** Promises 1 to 8: the new object, copies, patrons and settings. */
public final class CopiesTest {
    private static final int[] LOWEST = {1, 1, 0, 0, 1, 0, 0, 1};
    private static final int[] HIGHEST = {60, 20, 1000, 10000, 100000, 30, 100000, 365};
    private static final int[] FIRST = {14, 5, 25, 500, 1000, 7, 3000, 60};

    public static void main(String[] args) {
        constants();
        newObject();
        addCopy();
        addCopyForAWaitingHold();
        addPatron();
        settings();
        settingsForWhatHappensFromNowOn();
        setFloating();
        copyCount();
        copyInEachState();
        Due.end();
    }

    private static void constants() {
        Due.is("BAD", LibraryCirculation.BAD, -1);
        Due.is("NONE", LibraryCirculation.NONE, -2);
        Due.is("FULL", LibraryCirculation.FULL, -3);
    }

    private static void newObject() {
        LibraryCirculation x = new LibraryCirculation();
        Due.is("day", x.day(), 0);
        Due.is("copyCount", x.copyCount(-1), 0);
        Due.is("patronCount", x.patronCount(), 0);
        Due.is("holdCount", x.holdCount(-1), 0);
        Due.is("ledgerSize", x.ledgerSize(), 0);
        Due.is("undo", x.undo(), -2);
        Due.is("restore", x.restore(), -2);
        Due.is("execute", x.execute(), -200);
        Due.is("feed", x.feed(' '), 1);
        for (int i = 0; i < FIRST.length; i++) {
            Due.is("setting " + i, x.setting(i), FIRST[i]);
        }
    }

    private static void addCopy() {
        LibraryCirculation x = new LibraryCirculation();
        int[][] wrong = {{-1, 0}, {6, 0}, {0, -1}, {0, 4}, {Integer.MIN_VALUE, 0}, {0, Integer.MAX_VALUE}};
        for (int[] pair : wrong) {
            Due.is("addCopy wrong", x.addCopy(pair[0], pair[1]), -1);
        }
        Due.is("undo", x.undo(), -2);
        for (int copy = 0; copy < 20; copy++) {
            Due.is("addCopy", x.addCopy(copy % 6, copy % 4), copy);
            Due.is("title", x.copy(copy, 0), copy % 6);
            Due.is("home", x.copy(copy, 1), copy % 4);
            Due.is("floats", x.copy(copy, 2), 0);
            Due.is("state", x.copy(copy, 3), 0);
            Due.is("branch", x.copy(copy, 4), copy % 4);
            for (int what = 5; what <= 9; what++) {
                Due.is("what " + what, x.copy(copy, what), -2);
            }
        }
        Due.is("addCopy full", x.addCopy(0, 0), -3);
        Due.is("addCopy bad before full", x.addCopy(6, 0), -1);
        Due.is("copyCount", x.copyCount(-1), 20);
    }

    private static void addCopyForAWaitingHold() {
        LibraryCirculation x = Due.desk(3);
        Due.is("hold", x.hold(0, 2, 1), 1);
        Due.is("hold", x.hold(1, 2, 3), 2);
        Due.is("addCopy at the branch of the hold", x.addCopy(2, 1), 0);
        Due.is("state", x.copy(0, 3), 3);
        Due.is("branch", x.copy(0, 4), 1);
        Due.is("holder", x.copy(0, 5), 0);
        Due.is("expires", x.copy(0, 6), 7);
        Due.is("addCopy of another title", x.addCopy(1, 3), 1);
        Due.is("state", x.copy(1, 3), 0);
        Due.is("addCopy elsewhere", x.addCopy(2, 0), 2);
        Due.is("state", x.copy(2, 3), 2);
        Due.is("branch", x.copy(2, 4), 3);
        Due.is("holder", x.copy(2, 5), 1);
        Due.is("arrives", x.copy(2, 6), 3);
        Due.is("home", x.copy(2, 1), 0);
    }

    private static void addPatron() {
        LibraryCirculation x = new LibraryCirculation();
        for (int patron = 0; patron < 8; patron++) {
            Due.is("addPatron", x.addPatron(), patron);
            Due.is("owes", x.owes(patron), 0);
            Due.is("claims", x.patron(patron, 2), 0);
        }
        Due.is("addPatron full", x.addPatron(), -3);
        Due.is("patronCount", x.patronCount(), 8);
    }

    private static void settings() {
        LibraryCirculation x = new LibraryCirculation();
        for (int i = 0; i < FIRST.length; i++) {
            Due.is("set too low", x.set(i, LOWEST[i] - 1), -1);
            Due.is("set too high", x.set(i, HIGHEST[i] + 1), -1);
            Due.is("set lowest of all", x.set(i, Integer.MIN_VALUE), -1);
            Due.is("set highest of all", x.set(i, Integer.MAX_VALUE), -1);
            Due.is("setting is as it was", x.setting(i), FIRST[i]);
            Due.is("set lowest", x.set(i, LOWEST[i]), FIRST[i]);
            Due.is("setting", x.setting(i), LOWEST[i]);
            Due.is("set highest", x.set(i, HIGHEST[i]), LOWEST[i]);
            Due.is("setting", x.setting(i), HIGHEST[i]);
        }
        int[] none = {-1, 8, Integer.MIN_VALUE, Integer.MAX_VALUE};
        for (int setting : none) {
            Due.is("no such setting to set", x.set(setting, 1), -1);
            Due.is("no such setting", x.setting(setting), -1);
        }
    }

    private static void settingsForWhatHappensFromNowOn() {
        LibraryCirculation x = Due.desk(2, 0, 0, 1, 0, 0, 0);
        Due.is("lend", x.lend(0, 0), 14);
        Due.is("set loan days", x.set(0, 2), 14);
        Due.is("due stays", x.copy(0, 6), 14);
        Due.is("lend", x.lend(0, 1), 2);
        Due.is("pass", x.pass(20), 20);
        Due.is("fine", x.fine(0), 150);
        x.set(2, 100);
        Due.is("fine with the fine for a day that is set", x.fine(0), 500);
        x.set(3, 550);
        Due.is("fine with the cap that is set", x.fine(0), 550);
        x.set(3, 10000);
        Due.is("fine under the cap", x.fine(0), 600);
        x.set(3, 0);
        Due.is("fine without any cap left", x.fine(0), 0);
    }

    private static void setFloating() {
        LibraryCirculation x = Due.desk(2, 0, 0);
        Due.is("no such copy", x.setFloating(1, true), -1);
        Due.is("no such copy", x.setFloating(-1, false), -1);
        Due.is("setFloating", x.setFloating(0, true), 0);
        Due.is("floats", x.copy(0, 2), 1);
        Due.is("again", x.setFloating(0, true), 1);
        x.lend(0, 0);
        Due.is("brought back elsewhere", x.bringBack(0, 2), 0);
        Due.is("stays there", x.copy(0, 4), 2);
        Due.is("floats no more", x.setFloating(0, false), 1);
        Due.is("and not now", x.setFloating(0, false), 0);
        x.pass(5);
        Due.is("is where it was", x.copy(0, 4), 2);
        Due.is("on the shelf", x.copy(0, 3), 0);
        x.lend(0, 0);
        Due.is("goes home", x.bringBack(0, 2), 2);
        Due.is("to its home", x.copy(0, 4), 0);
        Due.is("floats on the way", x.setFloating(0, true), 0);
        Due.is("still to its home", x.copy(0, 4), 0);
    }

    private static void copyCount() {
        LibraryCirculation x = Due.desk(3, 0, 0, 0, 0, 1, 1, 2, 2, 3, 3, 4, 0, 4, 0);
        x.lend(0, 0);
        x.lend(0, 2);
        x.claim(2);
        x.lend(1, 3);
        x.lose(3);
        x.hold(2, 3, 3);
        x.hold(2, 4, 2);
        int[] want = {2, 1, 1, 1, 1, 1};
        for (int state = 0; state < 6; state++) {
            Due.is("copyCount " + state, x.copyCount(state), want[state]);
        }
        Due.is("all", x.copyCount(-1), 7);
        Due.is("no such state", x.copyCount(6), -1);
        Due.is("no such state", x.copyCount(-2), -1);
    }

    private static void copyInEachState() {
        LibraryCirculation x = Due.desk(2, 3, 1);
        Due.is("no such copy", x.copy(1, 0), -1);
        Due.is("no such copy", x.copy(-1, 0), -1);
        Due.is("no such what", x.copy(0, -1), -1);
        Due.is("no such what", x.copy(0, 10), -1);
        x.pass(3);
        x.lend(1, 0);
        row("on loan", x, 3, 1, 0, 1, 1, -2, 17, 3, 0, 0);
        x.pass(2);
        x.renew(0);
        x.hold(0, 3, 3);
        row("renewed and recalled", x, 3, 1, 0, 1, 1, -2, 10, 3, 1, 1);
        x.pass(1);
        x.claim(0);
        row("claimed", x, 3, 1, 0, 4, 1, -2, 6, 3, 1, 1);
        x.pass(1);
        x.lose(0);
        row("lost", x, 3, 1, 0, 5, 1, -2, -2, 3, 1, 1);
        x.setFloating(0, true);
        x.bringBack(0, 2);
        row("on the way", x, 3, 1, 1, 2, 3, 0, 8, -2, -2, -2);
        x.pass(1);
        row("on the hold shelf", x, 3, 1, 1, 3, 3, 0, 15, -2, -2, -2);
        x.cancelHold(0, 3);
        row("on the shelf", x, 3, 1, 1, 0, 3, -2, -2, -2, -2, -2);
    }

    private static void row(String when, LibraryCirculation x, int... want) {
        for (int what = 0; what < want.length; what++) {
            Due.is(when + ": copy(0, " + what + ")", x.copy(0, what), want[what]);
        }
    }
}
