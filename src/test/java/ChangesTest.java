/** Promises 39 to 41: snapshots and undo. */
public final class ChangesTest {
    public static void main(String[] args) {
        saveAndRestore();
        everythingIsSaved();
        undoOfEachChange();
        whatIsNoChange();
        atMostEight();
        undoThenChange();
        undoLeavesTheSnapshot();
        Due.end();
    }

    private static void saveAndRestore() {
        LibraryCirculation x = Due.desk(1, 0, 0);
        Due.is("no snapshot", x.restore(), -2);
        x.pass(3);
        Due.is("save", x.save(), 3);
        x.pass(4);
        x.lend(0, 0);
        Due.is("restore", x.restore(), 3);
        Due.is("day", x.day(), 3);
        Due.is("on the shelf", x.copy(0, 3), 0);
        x.pass(5);
        Due.is("the snapshot is kept", x.restore(), 3);
        x.pass(1);
        Due.is("save in place of it", x.save(), 4);
        x.pass(1);
        Due.is("restore", x.restore(), 4);
    }

    private static void everythingIsSaved() {
        LibraryCirculation x = Due.desk(3, 0, 0, 1, 1, 2, 2);
        x.set(2, 10);
        x.lend(0, 0);
        x.hold(1, 0, 2);
        x.pass(30);
        x.lend(0, 1);
        x.lose(1);
        x.claim(0);
        x.pay(0, 100);
        x.save();
        x.set(2, 20);
        x.addCopy(0, 3);
        x.addPatron();
        x.setFloating(2, true);
        x.bringBack(0, 0);
        x.bringBack(1, 0);
        x.hold(2, 2, 0);
        x.cancelHold(1, 0);
        x.pass(50);
        x.restore();
        Due.is("setting", x.setting(2), 10);
        Due.is("copies", x.copyCount(-1), 3);
        Due.is("patrons", x.patronCount(), 3);
        Due.is("floats", x.copy(2, 2), 0);
        Due.is("claimed", x.copy(0, 3), 4);
        Due.is("lost", x.copy(1, 3), 5);
        Due.is("noted", x.fine(0), 230);
        Due.is("holds", x.holdCount(-1), 1);
        Due.is("hold", x.place(1, 0), 0);
        Due.is("owes", x.owes(0), 2900);
        Due.is("claims", x.patron(0, 2), 1);
        Due.is("charged", x.patron(0, 4), 3000);
        Due.is("paid", x.patron(0, 5), 100);
        Due.is("ledger", x.ledgerSize(), 2);
        Due.is("day", x.day(), 30);
        x.bringBack(1, 1);
        Due.is("the price that was charged", x.owes(0), -100);
    }

    private static void undoOfEachChange() {
        LibraryCirculation x = Due.desk(2, 0, 0, 1, 0);
        x.addCopy(2, 0);
        Due.is("undo addCopy", x.undo(), 4);
        Due.is("copies", x.copyCount(-1), 2);
        x.addPatron();
        Due.is("undo addPatron", x.undo(), 4);
        Due.is("patrons", x.patronCount(), 2);
        x.set(0, 14);
        Due.is("undo set, though it was so", x.undo(), 4);
        x.set(0, 1);
        x.undo();
        Due.is("setting", x.setting(0), 14);
        x.setFloating(0, true);
        Due.is("undo setFloating", x.undo(), 4);
        Due.is("floats", x.copy(0, 2), 0);
        x.lend(0, 0);
        x.pass(15);
        Due.is("undo pass", x.undo(), 5);
        Due.is("day", x.day(), 0);
        x.pass(15);
        x.renew(0);
        Due.is("undo renew", x.undo(), 6);
        Due.is("due", x.copy(0, 6), 14);
        x.claim(0);
        Due.is("undo claim", x.undo(), 6);
        Due.is("on loan", x.copy(0, 3), 1);
        Due.is("claims", x.patron(0, 2), 0);
        x.bringBack(0, 3);
        Due.is("undo bringBack", x.undo(), 6);
        Due.is("owes", x.owes(0), 0);
        x.hold(1, 0, 0);
        Due.is("undo hold", x.undo(), 6);
        Due.is("recalled no more", x.copy(0, 9), 0);
        x.hold(1, 0, 0);
        x.cancelHold(1, 0);
        Due.is("undo cancelHold", x.undo(), 7);
        Due.is("hold", x.place(1, 0), 0);
        x.undo();
        x.lose(0);
        x.pay(0, 7);
        Due.is("undo pay", x.undo(), 7);
        x.waive(0, 7);
        Due.is("undo waive", x.undo(), 7);
        Due.is("owes", x.owes(0), 3000);
        Due.is("undo lose", x.undo(), 6);
        Due.is("ledger", x.ledgerSize(), 0);
        x.save();
        x.pass(1);
        x.restore();
        Due.is("undo restore", x.undo(), 7);
        Due.is("day", x.day(), 16);
        Due.is("undo pass", x.undo(), 6);
        Due.is("undo pass", x.undo(), 5);
        Due.is("undo lend", x.undo(), 4);
        Due.is("on the shelf", x.copy(0, 3), 0);
    }

    private static void whatIsNoChange() {
        LibraryCirculation x = Due.desk(1, 0, 0);
        x.lend(0, 5);
        x.lend(0, 0);
        x.lend(0, 0);
        x.renew(0);
        x.bringBack(0, 9);
        x.hold(0, 0, 0);
        x.cancelHold(0, 0);
        x.pass(0);
        x.claim(3);
        x.lose(3);
        x.pay(0, 1);
        x.waive(0, 1);
        x.addCopy(9, 9);
        x.set(9, 9);
        x.setFloating(9, true);
        x.restore();
        x.save();
        x.feed('x');
        x.execute();
        x.feed('r');
        x.feed(' ');
        x.feed('0');
        x.execute();
        x.reason(0, 0, 0);
        x.fine(0);
        Due.is("undo lend", x.undo(), 2);
        Due.is("on the shelf", x.copy(0, 3), 0);
        Due.is("undo addPatron", x.undo(), 1);
        Due.is("undo addCopy", x.undo(), 0);
        Due.is("nothing left", x.undo(), -2);
        Due.is("copies", x.copyCount(-1), 0);
    }

    private static void atMostEight() {
        LibraryCirculation x = new LibraryCirculation();
        for (int i = 0; i < 21; i++) {
            x.pass(1);
        }
        for (int left = 7; left >= 0; left--) {
            Due.is("undo", x.undo(), left);
            Due.is("day", x.day(), 13 + left);
        }
        Due.is("nothing left", x.undo(), -2);
        Due.is("day", x.day(), 13);
    }

    private static void undoThenChange() {
        LibraryCirculation x = new LibraryCirculation();
        for (int i = 0; i < 10; i++) {
            x.pass(1);
        }
        x.undo();
        x.undo();
        x.undo();
        x.pass(100);
        Due.is("day", x.day(), 107);
        Due.is("undo", x.undo(), 5);
        Due.is("day", x.day(), 7);
        Due.is("undo", x.undo(), 4);
        Due.is("day", x.day(), 6);
    }

    private static void undoLeavesTheSnapshot() {
        LibraryCirculation x = new LibraryCirculation();
        x.pass(1);
        x.pass(2);
        x.save();
        x.undo();
        x.undo();
        Due.is("day", x.day(), 0);
        Due.is("restore", x.restore(), 3);
        Due.is("undo restore", x.undo(), 0);
        Due.is("day", x.day(), 0);
        Due.is("restore again", x.restore(), 3);
    }
}
