import java.util.function.ToIntFunction;

/** The 8 changes that can be undone: each call that is a change, and each that is none. */
public final class UndoTest {
    private static final int BAD = LibraryCirculation.BAD;
    private static final int NONE = LibraryCirculation.NONE;
    private static final int MOST = 8;
    /** The setting whose values tell the changes of scene() apart. */
    private static final int COUNTER = 7;

    private static final class Named {
        final String name;
        final ToIntFunction<LibraryCirculation> call;
        final int want;

        Named(String name, int want, ToIntFunction<LibraryCirculation> call) {
            this.name = name;
            this.call = call;
            this.want = want;
        }
    }

    /** Each call that is a change, with its answer after scene(). */
    private static final Named[] CHANGES = {
        new Named("addCopy", 6, x -> x.addCopy(0, 3)),
        new Named("addPatron", 2, LibraryCirculation::addPatron),
        new Named("set", 500, x -> x.set(3, 77)),
        new Named("set to what it is", 14, x -> x.set(0, 14)),
        new Named("setFloating", 0, x -> x.setFloating(1, true)),
        new Named("setFloating to what it is", 0, x -> x.setFloating(1, false)),
        new Named("lend", 35, x -> x.lend(0, 3)),
        new Named("bringBack from loan", 2, x -> x.bringBack(0, 2)),
        new Named("bringBack from claim", 2, x -> x.bringBack(1, 2)),
        new Named("bringBack from lost", 0, x -> x.bringBack(2, 0)),
        new Named("renew", 35, x -> x.renew(4)),
        new Named("hold that waits", 2, x -> x.hold(0, 5, 3)),
        new Named("hold that recalls", 1, x -> x.hold(1, 0, 3)),
        new Named("hold that takes a copy", 0, x -> x.hold(1, 3, 1)),
        new Named("cancelHold", 0, x -> x.cancelHold(1, 5)),
        new Named("pass", 421, x -> x.pass(400)),
        new Named("claim", 175, x -> x.claim(0)),
        new Named("lose a loan", 600, x -> x.lose(0)),
        new Named("lose a claimed copy", 600, x -> x.lose(1)),
        new Named("pay", 299, x -> x.pay(0, 1)),
        new Named("waive", 299, x -> x.waive(0, 1)),
        new Named("execute of one command", 1, x -> Due.execute(x, "i 0 0")),
        new Named("execute of twelve commands", 12, x -> Due.execute(x, "i 0 0;p 0 3;d 1;d 1;d 1;d 1;d 1;d 1;d 1;d 1;d 1;d 99")),
        new Named("restore", 21, LibraryCirculation::restore),
    };

    /** Each of these calls with an error code or refused, with its answer after scene(). */
    private static final Named[] NOT_DONE = {
        new Named("addCopy", BAD, x -> x.addCopy(6, 0)),
        new Named("set", BAD, x -> x.set(0, 61)),
        new Named("setFloating", BAD, x -> x.setFloating(6, true)),
        new Named("lend", BAD, x -> x.lend(2, 3)),
        new Named("lend", -103, x -> x.lend(0, 4)),
        new Named("bringBack", BAD, x -> x.bringBack(0, 4)),
        new Named("bringBack", NONE, x -> x.bringBack(3, 0)),
        new Named("renew", BAD, x -> x.renew(6)),
        new Named("renew", -101, x -> x.renew(1)),
        new Named("hold", BAD, x -> x.hold(0, 5, 4)),
        new Named("hold", -103, x -> x.hold(1, 5, 0)),
        new Named("cancelHold", BAD, x -> x.cancelHold(1, 6)),
        new Named("cancelHold", NONE, x -> x.cancelHold(0, 5)),
        new Named("pass", BAD, x -> x.pass(401)),
        new Named("claim", BAD, x -> x.claim(6)),
        new Named("claim", -101, x -> x.claim(1)),
        new Named("lose", BAD, x -> x.lose(6)),
        new Named("lose", -101, x -> x.lose(2)),
        new Named("pay", BAD, x -> x.pay(0, 301)),
        new Named("waive", BAD, x -> x.waive(0, 301)),
        new Named("execute of nothing", -200, LibraryCirculation::execute),
        new Named("execute of a wrong text", -205, x -> Due.execute(x, "i 0 0 ")),
        new Named("execute with an error code", -302, x -> Due.execute(x, "i 0 0;d 50;d 0")),
        new Named("execute that is refused", -301, x -> Due.execute(x, "i 0 0;o 0 4")),
    };

    /** Each method that only answers, with its answer after scene(). */
    private static final Named[] ANSWERS = {
        new Named("setting", 300, x -> x.setting(6)),
        new Named("copyCount", 6, x -> x.copyCount(-1)),
        new Named("copy", 4, x -> x.copy(1, 3)),
        new Named("day", 21, LibraryCirculation::day),
        new Named("reason", 0, x -> x.reason(1, 4, 0)),
        new Named("holdCount", 2, x -> x.holdCount(-1)),
        new Named("waiting", 1, x -> x.waiting(5)),
        new Named("holdAt", 1, x -> x.holdAt(5, 0, 0)),
        new Named("place", 0, x -> x.place(1, 5)),
        new Named("estimate", NONE, x -> x.estimate(1, 5)),
        new Named("patronCount", 2, LibraryCirculation::patronCount),
        new Named("owes", 300, x -> x.owes(0)),
        new Named("accrued", 175, x -> x.accrued(0)),
        new Named("patron", 1, x -> x.patron(0, 2)),
        new Named("loanOf", 0, x -> x.loanOf(0, 0)),
        new Named("fine", 150, x -> x.fine(2)),
        new Named("ledgerSize", 1, LibraryCirculation::ledgerSize),
        new Named("ledger", 300, x -> x.ledger(0, 2)),
        new Named("ledgerSum", 300, x -> x.ledgerSum(0, -1)),
        new Named("shelf", 3, x -> x.shelf(0, 0)),
        new Named("arriving", 5, x -> x.arriving(3, 0)),
    };

    public static void main(String[] args) {
        eachChangeIsUndone();
        whatIsNotDoneIsNoChange();
        answersAreNoChange();
        saveAndFeedAreNoChange();
        fromNoneToTwelveChanges();
        undoneAndMadeAnew();
        undoAcrossARestore();
        snapshotOfANewDesk();
        Due.end();
    }

    /**
     * Copy 0 is lent and late, 1 claimed, 2 lost, 3 on the shelf, 4 lent, 5 on the way; a hold waits. From 1 to 8
     * changes can be undone: the restore of all this, and then those that set the counter to 101, 102 and so on.
     */
    private static void scene(LibraryCirculation x, int changes) {
        for (int copy = 0; copy < 5; copy++) {
            x.addCopy(copy, 0);
        }
        x.addPatron();
        x.addPatron();
        x.set(6, 300);
        x.set(COUNTER, 100);
        x.lend(0, 0);
        x.lend(0, 1);
        x.lend(0, 2);
        x.pass(20);
        x.addCopy(4, 0);
        x.lend(1, 4);
        x.claim(1);
        x.lose(2);
        x.hold(1, 5, 1);
        x.hold(0, 4, 3);
        x.pass(1);
        x.save();
        for (int left = MOST - 1; left >= 0; left--) {
            Due.is("undo", x.undo(), left);
        }
        Due.is("nothing is left to undo", x.undo(), NONE);
        x.restore();
        for (int change = 1; change < changes; change++) {
            x.set(COUNTER, 100 + change);
        }
    }

    private static LibraryCirculation desk(int changes) {
        LibraryCirculation x = new LibraryCirculation();
        scene(x, changes);
        return x;
    }

    private static void eachChangeIsUndone() {
        for (Named change : CHANGES) {
            for (int changes = 1; changes <= MOST; changes++) {
                String name = change.name + " after " + changes + " changes";
                LibraryCirculation x = desk(changes);
                String before = Seen.state(x);
                Due.is(name, change.call.applyAsInt(x), change.want);
                Due.is(name + ", undo", x.undo(), Math.min(changes, MOST - 1));
                Seen.same(name + ", the state after undo", Seen.state(x), before);
                undoTheScene(name, x, changes);
            }
        }
    }

    /** The changes of scene(), the oldest of which is forgotten if there was a ninth. */
    private static void undoTheScene(String name, LibraryCirculation x, int changes) {
        for (int counter = 100 + changes - 2; counter >= 100; counter--) {
            int left = counter - 100 + (changes < MOST ? 1 : 0);
            Due.is(name + ", undo of the earlier ones", x.undo(), left);
            Due.is(name + ", the counter", x.setting(COUNTER), counter);
            Due.is(name + ", the day", x.day(), 21);
        }
        if (changes < MOST) {
            Due.is(name + ", undo of the first", x.undo(), 0);
            Due.is(name + ", the day before it", x.day(), 0);
        }
        Due.is(name + ", nothing is left", x.undo(), NONE);
    }

    private static void whatIsNotDoneIsNoChange() {
        for (Named call : NOT_DONE) {
            Seen.changesNothing(call.name, x -> scene(x, 3), call.call, call.want);
            Seen.changesNothing(call.name, x -> scene(x, MOST), call.call, call.want);
        }
        Seen.changesNothing("restore", x -> x.pass(1), LibraryCirculation::restore, NONE);
    }

    private static void answersAreNoChange() {
        for (Named call : ANSWERS) {
            Seen.changesNothing(call.name, x -> scene(x, 3), call.call, call.want);
        }
    }

    private static void saveAndFeedAreNoChange() {
        LibraryCirculation x = desk(3);
        Due.is("save", x.save(), 21);
        Due.is("undo after save", x.undo(), 2);
        Due.is("the counter", x.setting(COUNTER), 101);
        Due.is("feed", x.feed('d'), 1);
        Due.is("undo after feed", x.undo(), 1);
        Due.is("the counter", x.setting(COUNTER), 100);
        Due.is("the letter stays", x.feed(' '), 2);
        Due.is("restore what was saved", x.restore(), 21);
        Due.is("the counter", x.setting(COUNTER), 102);
        Due.is("the letters stay", x.feed('4'), 3);
        Due.is("and are executed", x.execute(), 1);
        Due.is("day", x.day(), 25);
        Due.is("undo", x.undo(), 2);
        Due.is("the buffer stays empty", x.feed('d'), 1);
    }

    private static void fromNoneToTwelveChanges() {
        for (int changes = 0; changes <= 12; changes++) {
            LibraryCirculation x = new LibraryCirculation();
            for (int change = 0; change < changes; change++) {
                x.pass(change + 1);
            }
            int day = changes * (changes + 1) / 2;
            int most = Math.min(changes, MOST);
            for (int undone = 1; undone <= most; undone++) {
                Due.is("undo " + undone + " of " + changes, x.undo(), most - undone);
                day -= changes + 1 - undone;
                Due.is("day", x.day(), day);
            }
            Due.is("no more than " + most + " of " + changes, x.undo(), NONE);
            Due.is("day", x.day(), day);
        }
    }

    private static void undoneAndMadeAnew() {
        for (int undone = 0; undone <= MOST; undone++) {
            for (int anew = 0; anew <= MOST + 1; anew++) {
                LibraryCirculation x = new LibraryCirculation();
                for (int i = 0; i < 11; i++) x.pass(1);
                for (int i = 0; i < undone; i++) x.undo();
                for (int i = 0; i < anew; i++) x.pass(10);
                int left = Math.min(MOST, MOST - undone + anew);
                for (int i = 1; i <= left; i++) {
                    Due.is("undo", x.undo(), left - i);
                    int tens = Math.max(0, anew - i);
                    int ones = 11 - undone - Math.max(0, i - anew);
                    Due.is("day", x.day(), 10 * tens + ones);
                }
                Due.is("nothing is left", x.undo(), NONE);
            }
        }
    }

    private static void undoAcrossARestore() {
        LibraryCirculation x = new LibraryCirculation();
        x.pass(1);
        x.save();
        x.pass(2);
        x.pass(3);
        Due.is("restore", x.restore(), 1);
        Due.is("restore what is there already", x.restore(), 1);
        x.pass(5);
        int[] days = {1, 1, 6, 3, 1, 0};
        for (int i = 0; i < days.length; i++) {
            Due.is("undo", x.undo(), days.length - 1 - i);
            Due.is("day", x.day(), days[i]);
        }
        Due.is("nothing is left", x.undo(), NONE);
        Due.is("the snapshot is kept", x.restore(), 1);
    }

    private static void snapshotOfANewDesk() {
        String before = Seen.state(new LibraryCirculation());
        LibraryCirculation x = new LibraryCirculation();
        Due.is("save", x.save(), 0);
        x.addCopy(0, 0);
        x.addPatron();
        x.lend(0, 0);
        x.hold(0, 1, 0);
        x.lose(0);
        x.set(0, 1);
        x.pass(9);
        Due.is("restore", x.restore(), 0);
        Seen.same("as new", Seen.state(x), before);
        Due.is("the first copy", x.addCopy(3, 2), 0);
        Due.is("floats", x.copy(0, 2), 0);
        Due.is("the first patron", x.addPatron(), 0);
        Due.is("owes", x.owes(0), 0);
        Due.is("charged", x.patron(0, 4), 0);
    }
}
