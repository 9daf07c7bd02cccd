import java.util.function.Consumer;

/** The range of every argument of every method: the ends, one beyond them, and the least and the greatest int. */
public final class ArgumentsTest {
    private static final int BAD = LibraryCirculation.BAD;
    private static final int NONE = LibraryCirculation.NONE;
    private static final int FULL = LibraryCirculation.FULL;
    private static final int NO_ENTRY = Integer.MIN_VALUE;
    private static final int LAST_COPY = 4;
    private static final int LAST_PATRON = 1;
    private static final int OWED = 500;

    private interface Call {
        int with(LibraryCirculation x, int argument);
    }

    public static void main(String[] args) {
        copies();
        valuesOfSettings();
        loans();
        holds();
        reasons();
        queues();
        money();
        ledger();
        branches();
        letters();
        boundsThatMove();
        severalWrong();
        badBeforeNone();
        badBeforeFull();
        badBeforeReasons();
        Due.end();
    }

    /** Five copies in several states, two patrons that owe, holds, a snapshot and a letter in the buffer. */
    private static void prepare(LibraryCirculation x) {
        for (int copy = 0; copy <= LAST_COPY; copy++) {
            x.addCopy(copy, 1);
        }
        x.addPatron();
        x.addPatron();
        x.set(6, OWED);
        x.lend(0, 2);
        x.lose(2);
        x.lend(1, 4);
        x.lose(4);
        x.lend(0, 0);
        x.hold(1, 3, 3);
        x.hold(1, 5, 2);
        x.save();
        x.pass(2);
        x.feed('d');
    }

    private static void range(String argument, int error, int lowest, int highest, Call call) {
        range(ArgumentsTest::prepare, argument, error, lowest, highest, call);
    }

    private static void range(Consumer<LibraryCirculation> before, String argument, int error, int lowest,
            int highest, Call call) {
        int[] wrong = {lowest - 1, highest + 1, Integer.MIN_VALUE, Integer.MAX_VALUE};
        for (int value : wrong) {
            Seen.changesNothing(argument + " = " + value, before, x -> call.with(x, value), error);
        }
        int[] right = {lowest, highest};
        for (int value : right) {
            LibraryCirculation x = new LibraryCirculation();
            before.accept(x);
            Due.holds(argument + " = " + value + " is in its range", call.with(x, value) != error);
        }
    }

    private static void copies() {
        range("addCopy title", BAD, 0, 5, (x, v) -> x.addCopy(v, 0));
        range("addCopy home", BAD, 0, 3, (x, v) -> x.addCopy(0, v));
        range("set setting", BAD, 0, 7, (x, v) -> x.set(v, 1));
        range("setting", BAD, 0, 7, (x, v) -> x.setting(v));
        range("setFloating to true", BAD, 0, LAST_COPY, (x, v) -> x.setFloating(v, true));
        range("setFloating to false", BAD, 0, LAST_COPY, (x, v) -> x.setFloating(v, false));
        range("copyCount", BAD, -1, 5, (x, v) -> x.copyCount(v));
        range("copy", BAD, 0, LAST_COPY, (x, v) -> x.copy(v, 0));
        range("copy what", BAD, 0, 9, (x, v) -> x.copy(0, v));
        range("pass", BAD, 1, 400, (x, v) -> x.pass(v));
    }

    private static void valuesOfSettings() {
        range("days of a loan", BAD, 1, 60, (x, v) -> x.set(0, v));
        range("greatest number of loans", BAD, 1, 20, (x, v) -> x.set(1, v));
        range("fine for a day", BAD, 0, 1000, (x, v) -> x.set(2, v));
        range("cap of a fine", BAD, 0, 10000, (x, v) -> x.set(3, v));
        range("limit of what is owed", BAD, 1, 100000, (x, v) -> x.set(4, v));
        range("days on a hold shelf", BAD, 0, 30, (x, v) -> x.set(5, v));
        range("price of a lost copy", BAD, 0, 100000, (x, v) -> x.set(6, v));
        range("days until a claim ends", BAD, 1, 365, (x, v) -> x.set(7, v));
    }

    private static void loans() {
        range("lend patron", BAD, 0, LAST_PATRON, (x, v) -> x.lend(v, 1));
        range("lend copy", BAD, 0, LAST_COPY, (x, v) -> x.lend(0, v));
        range("bringBack copy", BAD, 0, LAST_COPY, (x, v) -> x.bringBack(v, 0));
        range("bringBack branch", BAD, 0, 3, (x, v) -> x.bringBack(0, v));
        range("renew", BAD, 0, LAST_COPY, (x, v) -> x.renew(v));
        range("claim", BAD, 0, LAST_COPY, (x, v) -> x.claim(v));
        range("lose", BAD, 0, LAST_COPY, (x, v) -> x.lose(v));
    }

    private static void holds() {
        range("hold patron", BAD, 0, LAST_PATRON, (x, v) -> x.hold(v, 1, 0));
        range("hold title", BAD, 0, 5, (x, v) -> x.hold(0, v, 0));
        range("hold branch", BAD, 0, 3, (x, v) -> x.hold(0, 1, v));
        range("cancelHold patron", BAD, 0, LAST_PATRON, (x, v) -> x.cancelHold(v, 3));
        range("cancelHold title", BAD, 0, 5, (x, v) -> x.cancelHold(1, v));
    }

    private static void reasons() {
        range("reason kind", BAD, 0, 4, (x, v) -> x.reason(v, 0, 0));
        range("reason for lend, a", BAD, 0, LAST_PATRON, (x, v) -> x.reason(0, v, 1));
        range("reason for lend, b", BAD, 0, LAST_COPY, (x, v) -> x.reason(0, 1, v));
        for (int kind = 1; kind <= 3; kind++) {
            int k = kind;
            range("reason of kind " + k + ", a", BAD, 0, LAST_COPY, (x, v) -> x.reason(k, v, 0));
            range("reason of kind " + k + ", b", BAD, 0, 0, (x, v) -> x.reason(k, 0, v));
        }
        range("reason for hold, a", BAD, 0, LAST_PATRON, (x, v) -> x.reason(4, v, 5));
        range("reason for hold, b", BAD, 0, 5, (x, v) -> x.reason(4, 1, v));
    }

    private static void queues() {
        range("holdCount", BAD, -1, 5, (x, v) -> x.holdCount(v));
        range("waiting", BAD, 0, 5, (x, v) -> x.waiting(v));
        range("holdAt title", BAD, 0, 5, (x, v) -> x.holdAt(v, 0, 0));
        range("holdAt i", NONE, 0, 0, (x, v) -> x.holdAt(3, v, 0));
        range("holdAt what", BAD, 0, 2, (x, v) -> x.holdAt(3, 0, v));
        range("place patron", BAD, 0, LAST_PATRON, (x, v) -> x.place(v, 3));
        range("place title", BAD, 0, 5, (x, v) -> x.place(1, v));
        range("estimate patron", BAD, 0, LAST_PATRON, (x, v) -> x.estimate(v, 5));
        range("estimate title", BAD, 0, 5, (x, v) -> x.estimate(1, v));
    }

    private static void money() {
        range("owes", BAD, 0, LAST_PATRON, (x, v) -> x.owes(v));
        range("accrued", BAD, 0, LAST_PATRON, (x, v) -> x.accrued(v));
        range("patron", BAD, 0, LAST_PATRON, (x, v) -> x.patron(v, 0));
        range("patron what", BAD, 0, 5, (x, v) -> x.patron(0, v));
        range("loanOf patron", BAD, 0, LAST_PATRON, (x, v) -> x.loanOf(v, 0));
        range("loanOf i", NONE, 0, 0, (x, v) -> x.loanOf(0, v));
        range("fine", BAD, 0, LAST_COPY, (x, v) -> x.fine(v));
        range("pay patron", BAD, 0, LAST_PATRON, (x, v) -> x.pay(v, 1));
        range("pay amount", BAD, 1, OWED, (x, v) -> x.pay(0, v));
        range("waive patron", BAD, 0, LAST_PATRON, (x, v) -> x.waive(v, 1));
        range("waive amount", BAD, 1, OWED, (x, v) -> x.waive(0, v));
    }

    private static void ledger() {
        range("ledger i", NO_ENTRY, 0, 1, (x, v) -> x.ledger(v, 0));
        range("ledger what", NO_ENTRY, 0, 4, (x, v) -> x.ledger(0, v));
        range("ledgerSum patron", NO_ENTRY, 0, LAST_PATRON, (x, v) -> x.ledgerSum(v, -1));
        range("ledgerSum kind", NO_ENTRY, -1, 4, (x, v) -> x.ledgerSum(0, v));
    }

    private static void branches() {
        range("shelf branch", BAD, 0, 3, (x, v) -> x.shelf(v, 0));
        range("shelf i", NONE, -1, 0, (x, v) -> x.shelf(1, v));
        range("shelf i, where no copy is", NONE, -1, -1, (x, v) -> x.shelf(0, v));
        range("arriving branch", BAD, 0, 3, (x, v) -> x.arriving(v, 0));
        Consumer<LibraryCirculation> twoOnTheWay = x -> {
            prepare(x);
            x.hold(0, 1, 3);
            x.hold(1, 1, 3);
            x.addCopy(1, 1);
        };
        range(twoOnTheWay, "arriving i", NONE, 0, 1, (x, v) -> x.arriving(3, v));
    }

    private static void letters() {
        range("feed", BAD, 32, 126, (x, v) -> x.feed(v));
        int[] wrapped = {65536 + 'o', 256 + 'o', 'o' - 256, Integer.MIN_VALUE + 'o'};
        for (int letter : wrapped) {
            Seen.changesNothing("feed(" + letter + ")", ArgumentsTest::prepare, x -> x.feed(letter), BAD);
        }
    }

    /** What there is of copies and patrons moves the bounds of the arguments. */
    private static void boundsThatMove() {
        LibraryCirculation x = new LibraryCirculation();
        Due.is("no copy yet", x.setFloating(0, true), BAD);
        Due.is("no patron yet", x.owes(0), BAD);
        for (int copy = 0; copy < 20; copy++) {
            Due.is("no such copy yet", x.copy(copy, 0), BAD);
            x.addCopy(0, 0);
            Due.is("the copy that was added", x.copy(copy, 0), 0);
        }
        for (int patron = 0; patron < 8; patron++) {
            Due.is("no such patron yet", x.owes(patron), BAD);
            x.addPatron();
            Due.is("the patron that was added", x.owes(patron), 0);
        }
        Due.is("copy 20", x.copy(20, 0), BAD);
        Due.is("patron 8", x.owes(8), BAD);
        Due.is("the last ones", x.lend(7, 19), 14);
        x.undo();
        x.undo();
        Due.is("the patron that was undone", x.owes(7), BAD);
        Due.is("to lend to it", x.lend(7, 19), BAD);
    }

    private static void severalWrong() {
        int[] wrong = {Integer.MIN_VALUE, -2, 401, Integer.MAX_VALUE};
        for (int v : wrong) {
            for (int w : wrong) {
                none("addCopy", x -> Due.is("addCopy", x.addCopy(v, w), BAD));
                none("set", x -> Due.is("set", x.set(v, w), BAD));
                none("copy", x -> Due.is("copy", x.copy(v, w), BAD));
                none("lend", x -> Due.is("lend", x.lend(v, w), BAD));
                none("bringBack", x -> Due.is("bringBack", x.bringBack(v, w), BAD));
                none("hold", x -> Due.is("hold", x.hold(v, w, v), BAD));
                none("cancelHold", x -> Due.is("cancelHold", x.cancelHold(v, w), BAD));
                none("reason", x -> Due.is("reason", x.reason(v, w, v), BAD));
                none("pay", x -> Due.is("pay", x.pay(v, w), BAD));
                none("waive", x -> Due.is("waive", x.waive(v, w), BAD));
            }
        }
    }

    private static void none(String call, Consumer<LibraryCirculation> made) {
        Seen.changesNothing(call, ArgumentsTest::prepare, x -> {
            made.accept(x);
            return 0;
        }, 0);
    }

    private static void badBeforeNone() {
        LibraryCirculation x = new LibraryCirculation();
        prepare(x);
        Due.is("bringBack of a copy on a shelf", x.bringBack(1, 0), NONE);
        Due.is("bringBack of it to no branch", x.bringBack(1, 4), BAD);
        Due.is("cancelHold of none", x.cancelHold(0, 0), NONE);
        Due.is("holdAt of none", x.holdAt(0, 0, 0), NONE);
        Due.is("holdAt of none, what", x.holdAt(0, 0, 3), BAD);
        Due.is("holdAt of none, title", x.holdAt(6, 9, 0), BAD);
        Due.is("loanOf no patron, no position", x.loanOf(2, 9), BAD);
        Due.is("shelf of no branch, no position", x.shelf(4, 9), BAD);
        Due.is("shelf of no branch, the number", x.shelf(-1, -1), BAD);
        Due.is("arriving at no branch, no position", x.arriving(4, 9), BAD);
        Due.is("copy without a hold, what", x.copy(1, 10), BAD);
    }

    private static void badBeforeFull() {
        LibraryCirculation x = new LibraryCirculation();
        for (int copy = 0; copy < 20; copy++) {
            x.addCopy(0, 0);
        }
        Due.is("addCopy", x.addCopy(0, 0), FULL);
        Due.is("addCopy of no title", x.addCopy(6, 0), BAD);
        Due.is("addCopy at no branch", x.addCopy(0, -1), BAD);
        for (int i = 0; i < 60; i++) {
            x.feed('d');
        }
        Due.is("feed", x.feed('d'), FULL);
        Due.is("feed of 31", x.feed(31), BAD);
        Due.is("feed of 127", x.feed(127), BAD);
        LibraryCirculation y = Due.desk(8);
        for (int hold = 0; hold < 24; hold++) {
            y.hold(hold / 3, hold % 3, 0);
        }
        Due.is("24 holds, no patron", y.hold(8, 0, 0), BAD);
        Due.is("24 holds, no title", y.hold(0, 6, 0), BAD);
        Due.is("24 holds, no branch", y.hold(0, 3, 4), BAD);
    }

    private static void badBeforeReasons() {
        LibraryCirculation x = new LibraryCirculation();
        prepare(x);
        x.set(4, 1);
        Due.is("lend", x.lend(0, 1), -101);
        Due.is("lend of no copy", x.lend(0, LAST_COPY + 1), BAD);
        Due.is("hold", x.hold(0, 1, 0), -101);
        Due.is("hold of no title", x.hold(0, 6, 0), BAD);
        Due.is("hold at no branch", x.hold(0, 1, 4), BAD);
        Due.is("hold at a branch below", x.hold(0, 1, -1), BAD);
        Due.is("renew", x.renew(1), -101);
        Due.is("renew of no copy", x.renew(LAST_COPY + 1), BAD);
        Due.is("reason for lend of no copy", x.reason(0, 0, LAST_COPY + 1), BAD);
        Due.is("reason for hold of no title", x.reason(4, 0, 6), BAD);
        Due.is("reason for renew, b", x.reason(1, 1, 1), BAD);
    }
}
