import java.util.function.Consumer;

/** What is full, as many as there can be, what there is nothing of, and the latest 60 entries of the ledger. */
public final class LimitsTest {
    private static final int BAD = LibraryCirculation.BAD;
    private static final int NONE = LibraryCirculation.NONE;
    private static final int FULL = LibraryCirculation.FULL;
    private static final int NO_ENTRY = Integer.MIN_VALUE;

    public static void main(String[] args) {
        twentyCopies();
        noCopyForAHoldThatWaits();
        eightPatrons();
        twentyFourHolds();
        sixtyLetters();
        longestQueue();
        twentyLoans();
        twentyOnTheWayAndOnTheShelf();
        nothingToReturn();
        nothingOfACopy();
        nothingToDo();
        sixtyEntries();
        entriesOfOneCallAcrossTheSixtieth();
        entriesOfPassingDaysAcrossTheSixtieth();
        entriesOfNothing();
        everyKindOfEntry();
        sumsOfEntriesThatAreKept();
        ledgerOfASnapshot();
        Due.end();
    }

    // FULL

    private static void copies(LibraryCirculation x, int count) {
        for (int copy = 0; copy < count; copy++) {
            x.addCopy(0, 0);
        }
    }

    private static void patrons(LibraryCirculation x, int count) {
        for (int patron = 0; patron < count; patron++) {
            x.addPatron();
        }
    }

    private static void twentyCopies() {
        LibraryCirculation x = new LibraryCirculation();
        copies(x, 19);
        Due.is("the last one", x.addCopy(5, 3), 19);
        Due.is("copies", x.copyCount(-1), 20);
        for (int title = 0; title < 6; title++) {
            int t = title;
            Seen.changesNothing("addCopy of title " + t, y -> copies(y, 20), y -> y.addCopy(t, 1), FULL);
        }
        Due.is("undo", x.undo(), 7);
        Due.is("there is room again", x.addCopy(2, 2), 19);
        Due.is("title", x.copy(19, 0), 2);
        Due.is("full again", x.addCopy(2, 2), FULL);
    }

    private static void noCopyForAHoldThatWaits() {
        Seen.changesNothing("addCopy of a title that is waited for", x -> {
            patrons(x, 8);
            for (int copy = 0; copy < 20; copy++) {
                x.addCopy(1, 0);
            }
            x.hold(0, 0, 0);
            x.hold(1, 0, 1);
        }, x -> x.addCopy(0, 0), FULL);
    }

    private static void eightPatrons() {
        LibraryCirculation x = new LibraryCirculation();
        patrons(x, 7);
        Due.is("patrons", x.patronCount(), 7);
        Due.is("the last one", x.addPatron(), 7);
        Due.is("patrons", x.patronCount(), 8);
        Seen.changesNothing("addPatron", y -> patrons(y, 8), LibraryCirculation::addPatron, FULL);
        Due.is("undo", x.undo(), 7);
        Due.is("there is room again", x.addPatron(), 7);
        Due.is("full again", x.addPatron(), FULL);
    }

    private static void twentyFourHolds(LibraryCirculation x) {
        patrons(x, 8);
        for (int hold = 0; hold < 24; hold++) {
            x.hold(hold / 3, (hold / 3 + hold) % 6, hold % 4);
        }
    }

    /** FULL can't be met: whoever makes a 25th hold has three of them, and reason 2 comes before FULL. */
    private static void twentyFourHolds() {
        for (int patron = 0; patron < 8; patron++) {
            for (int title = 0; title < 6; title++) {
                int p = patron;
                int t = title;
                Seen.changesNothing("the 25th hold", LimitsTest::twentyFourHolds, x -> x.hold(p, t, 0), -102);
                Seen.changesNothing("its reason", LimitsTest::twentyFourHolds, x -> x.reason(4, p, t), 2);
            }
        }
        LibraryCirculation x = new LibraryCirculation();
        twentyFourHolds(x);
        Due.is("holds", x.holdCount(-1), 24);
        int sum = 0;
        for (int title = 0; title < 6; title++) {
            sum += x.holdCount(title);
            Due.is("all wait", x.waiting(title), x.holdCount(title));
        }
        Due.is("of all titles", sum, 24);
        int first = x.holdCount(0);
        Due.is("one less", x.cancelHold(0, 0), first - 1);
        Due.is("holds", x.holdCount(-1), 23);
        Due.is("made again", x.hold(0, 0, 0), first);
        Due.is("the last of the queue", x.place(0, 0), first - 1);
        Due.is("holds", x.holdCount(-1), 24);
    }

    private static void letters(LibraryCirculation x, int count) {
        for (int letter = 0; letter < count; letter++) {
            x.feed('d');
        }
    }

    private static void sixtyLetters() {
        LibraryCirculation x = new LibraryCirculation();
        letters(x, 59);
        Due.is("the last one", x.feed('~'), 60);
        Due.is("one more", x.feed(' '), FULL);
        Due.is("and again", x.feed('~'), FULL);
        Seen.changesNothing("feed", y -> letters(y, 60), y -> y.feed('d'), FULL);
        Due.is("the error position in a text of 60", x.execute(), -201);
        Due.is("there is room again", x.feed('d'), 1);
        LibraryCirculation y = new LibraryCirculation();
        Due.feed(y, "d 1;d 1;d 1;d 1;d 1;d 1;d 1;d 1;d 1;d 1;d 1;d 1;d 1;d 1;d 12");
        Due.is("what does not fit", y.feed('3'), FULL);
        Due.is("is not executed", y.execute(), 15);
        Due.is("day", y.day(), 26);
    }

    // As many as there can be

    private static void longestQueue() {
        LibraryCirculation x = new LibraryCirculation();
        patrons(x, 8);
        for (int patron = 7; patron >= 0; patron--) {
            Due.is("hold", x.hold(patron, 5, patron % 4), 8 - patron);
        }
        for (int i = 0; i < 8; i++) {
            Due.is("patron", x.holdAt(5, i, 0), 7 - i);
            Due.is("branch", x.holdAt(5, i, 1), (7 - i) % 4);
            Due.is("copy", x.holdAt(5, i, 2), NONE);
            Due.is("place", x.place(7 - i, 5), i);
        }
        Due.is("one beyond", x.holdAt(5, 8, 0), NONE);
        Due.is("one more of the first", x.hold(7, 5, 0), -103);
        for (int patron = 7; patron >= 0; patron--) {
            Due.is("cancelHold", x.cancelHold(patron, 5), patron);
        }
        Due.is("none is left", x.holdCount(-1), 0);
    }

    private static void twentyLoans() {
        LibraryCirculation x = new LibraryCirculation();
        copies(x, 20);
        patrons(x, 8);
        x.set(1, 20);
        x.set(2, 1000);
        x.set(3, 10000);
        for (int copy = 0; copy < 20; copy++) {
            x.lend(7, 19 - copy);
        }
        Due.is("loans", x.patron(7, 0), 20);
        for (int i = 0; i < 20; i++) {
            Due.is("loanOf(7, " + i + ")", x.loanOf(7, i), i);
        }
        Due.is("one beyond", x.loanOf(7, 20), NONE);
        for (int patron = 0; patron < 7; patron++) {
            Due.is("hold", x.hold(patron, 0, 0), patron + 1);
            Due.is("estimate", x.estimate(patron, 0), 7);
            Due.is("recalled, from the lowest on", x.copy(patron, 9), 1);
            Due.is("the next is not", x.copy(patron + 1, 9), 0);
        }
        Due.is("a loan of the title", x.hold(7, 0, 0), -104);
        x.pass(400);
        Due.is("accrued", x.accrued(7), 200000);
        Due.is("late", x.patron(7, 3), 20);
        for (int copy = 0; copy < 20; copy++) {
            x.bringBack(copy, 0);
        }
        Due.is("owes", x.owes(7), 200000);
        Due.is("the last loan's fine", x.ledger(19, 3), 19);
        Due.is("for the holds", x.copyCount(3), 7);
        Due.is("on the shelf", x.copyCount(0), 13);
    }

    private static void twentyOnTheWayAndOnTheShelf() {
        LibraryCirculation x = new LibraryCirculation();
        patrons(x, 1);
        x.set(1, 20);
        copies(x, 20);
        Due.is("on the shelf", x.shelf(0, -1), 20);
        Due.is("the last", x.shelf(0, 19), 19);
        Due.is("one beyond", x.shelf(0, 20), NONE);
        Due.is("state 0", x.copyCount(0), 20);
        for (int copy = 0; copy < 20; copy++) {
            x.lend(0, copy);
            x.bringBack(copy, copy < 10 ? 3 : 2);
        }
        for (int i = 0; i < 20; i++) {
            Due.is("arriving(0, " + i + ")", x.arriving(0, i), (i + 10) % 20);
        }
        Due.is("one beyond", x.arriving(0, 20), NONE);
        Due.is("state 2", x.copyCount(2), 20);
        Due.is("state 0", x.copyCount(0), 0);
        Due.is("shelf", x.shelf(0, -1), 0);
        x.pass(2);
        Due.is("shelf", x.shelf(0, -1), 10);
        Due.is("the first", x.shelf(0, 0), 10);
        Due.is("arriving", x.arriving(0, 9), 9);
        Due.is("one beyond", x.arriving(0, 10), NONE);
    }

    // NONE

    private static void nothingToReturn() {
        LibraryCirculation x = Due.desk(2, 0, 0);
        Due.is("fine of a copy on a shelf", x.fine(0), NONE);
        Due.is("fine of no copy", x.fine(1), BAD);
        Due.is("holdAt in an empty queue", x.holdAt(0, 0, 2), NONE);
        Due.is("place without a hold", x.place(0, 0), NONE);
        Due.is("estimate without a hold", x.estimate(0, 0), NONE);
        Due.is("loanOf without a loan", x.loanOf(0, 0), NONE);
        Due.is("shelf without a copy", x.shelf(1, 0), NONE);
        Due.is("arriving without a copy", x.arriving(1, 0), NONE);
        x.hold(0, 0, 2);
        Due.is("fine of a copy on the way", x.fine(0), NONE);
        Due.is("estimate of a hold with its copy on the way", x.estimate(0, 0), NONE);
        Due.is("place of it", x.place(0, 0), 0);
        Due.is("place of another patron", x.place(1, 0), NONE);
        Due.is("holdAt one beyond the queue", x.holdAt(0, 1, 0), NONE);
        Due.is("arriving", x.arriving(2, 0), 0);
        Due.is("arriving one beyond", x.arriving(2, 1), NONE);
        Due.is("the number of the copies arriving is no position", x.arriving(2, -1), NONE);
        x.pass(2);
        Due.is("fine of a copy on a hold shelf", x.fine(0), NONE);
        Due.is("estimate of a hold with its copy there", x.estimate(0, 0), NONE);
        Due.is("shelf", x.shelf(2, 0), 0);
        Due.is("shelf one beyond", x.shelf(2, 1), NONE);
        x.lend(0, 0);
        Due.is("fine of a loan", x.fine(0), 0);
        Due.is("loanOf", x.loanOf(0, 0), 0);
        Due.is("loanOf one beyond", x.loanOf(0, 1), NONE);
        Due.is("loanOf another patron", x.loanOf(1, 0), NONE);
        x.hold(1, 0, 0);
        Due.is("estimate of a hold that waits", x.estimate(1, 0), 9);
        x.claim(0);
        Due.is("estimate with nothing expected", x.estimate(1, 0), NONE);
        Due.is("fine of a claimed copy", x.fine(0), 0);
        x.lose(0);
        Due.is("fine of a lost copy", x.fine(0), 0);
        Due.is("estimate with nothing expected", x.estimate(1, 0), NONE);
    }

    /** What copy(copy, what) answers with NONE, state by state. */
    private static void nothingOfACopy() {
        LibraryCirculation x = Due.desk(2, 0, 0);
        numbers("on a shelf", x, NONE, NONE, NONE, NONE, NONE);
        x.hold(1, 0, 2);
        numbers("on the way for a hold", x, 1, 2, NONE, NONE, NONE);
        x.pass(2);
        numbers("on a hold shelf", x, 1, 9, NONE, NONE, NONE);
        x.lend(1, 0);
        numbers("on loan", x, NONE, 16, 2, 0, 0);
        x.claim(0);
        numbers("claimed", x, NONE, 2, 2, 0, 0);
        x.lose(0);
        numbers("lost", x, NONE, NONE, 2, 0, 0);
        x.bringBack(0, 3);
        numbers("on the way without a hold", x, NONE, 5, NONE, NONE, NONE);
    }

    private static void numbers(String when, LibraryCirculation x, int... want) {
        for (int i = 0; i < want.length; i++) {
            Due.is(when + ": copy(0, " + (5 + i) + ")", x.copy(0, 5 + i), want[i]);
        }
    }

    private static void nothingToDo() {
        Consumer<LibraryCirculation> shelf = x -> {
            copies(x, 1);
            patrons(x, 2);
        };
        Consumer<LibraryCirculation> way = shelf.andThen(x -> x.hold(0, 0, 1));
        Consumer<LibraryCirculation> holdShelf = way.andThen(x -> x.pass(1));
        Seen.changesNothing("bringBack from a shelf", shelf, x -> x.bringBack(0, 1), NONE);
        Seen.changesNothing("bringBack from the way", way, x -> x.bringBack(0, 1), NONE);
        Seen.changesNothing("bringBack from a hold shelf", holdShelf, x -> x.bringBack(0, 1), NONE);
        Seen.changesNothing("cancelHold without any hold", shelf, x -> x.cancelHold(0, 0), NONE);
        Seen.changesNothing("cancelHold of another patron", way, x -> x.cancelHold(1, 0), NONE);
        Seen.changesNothing("cancelHold of another title", way, x -> x.cancelHold(0, 1), NONE);
        Seen.changesNothing("restore without a snapshot", way, LibraryCirculation::restore, NONE);
        Seen.changesNothing("undo with nothing left", x -> { }, LibraryCirculation::undo, NONE);
        Seen.changesNothing("undo with nothing left but a letter", x -> x.feed('d'), LibraryCirculation::undo, NONE);
        LibraryCirculation x = new LibraryCirculation();
        Due.is("pass", x.pass(3), 3);
        Due.is("undo", x.undo(), 0);
        Due.is("undo with nothing left", x.undo(), NONE);
        Due.is("save", x.save(), 0);
        Due.is("undo after save alone", x.undo(), NONE);
        Due.is("restore", x.restore(), 0);
        Due.is("undo restore", x.undo(), 0);
        Due.is("undo with nothing left", x.undo(), NONE);
    }

    // The latest 60 entries

    /** Patron 0 owes 100000 less the payments of 1, 2, 3 .. cents; copy 0 is lost, copies 1 and 2 are lent to him. */
    private static void entries(LibraryCirculation x, int count) {
        copies(x, 3);
        patrons(x, 2);
        x.set(6, 100000);
        x.set(4, 100000);
        for (int copy = 0; copy < 3; copy++) {
            x.lend(0, copy);
        }
        x.lose(0);
        for (int amount = 1; amount < count; amount++) {
            x.pay(0, amount);
        }
    }

    private static void sixtyEntries() {
        for (int count = 58; count <= 63; count++) {
            LibraryCirculation x = new LibraryCirculation();
            entries(x, count);
            int kept = Math.min(count, 60);
            Due.is("ledgerSize after " + count, x.ledgerSize(), kept);
            Due.is("the oldest of " + count, x.ledger(0, 2), count <= 60 ? 100000 : 60 - count);
            Due.is("the latest of " + count, x.ledger(kept - 1, 2), 1 - count);
            Due.is("one beyond", x.ledger(kept, 2), NO_ENTRY);
            Due.is("one before", x.ledger(-1, 2), NO_ENTRY);
            Due.is("paid, of all", x.patron(0, 5), (count - 1) * count / 2);
            Due.is("charged, of all", x.patron(0, 4), 100000);
            Due.is("owes", x.owes(0), 100000 - (count - 1) * count / 2);
        }
    }

    private static void entriesOfOneCallAcrossTheSixtieth() {
        for (int count = 57; count <= 60; count++) {
            LibraryCirculation x = new LibraryCirculation();
            entries(x, count);
            x.pass(16);
            x.lose(1);
            x.bringBack(1, 0);
            int kept = Math.min(count + 3, 60);
            Due.is("ledgerSize", x.ledgerSize(), kept);
            Due.is("the price", x.ledger(kept - 3, 0), 1);
            Due.is("the price given back", x.ledger(kept - 2, 2), -100000);
            Due.is("the fine", x.ledger(kept - 1, 2), 50);
            Due.is("the oldest", x.ledger(0, 2), count <= 57 ? 100000 : 57 - count);
            x.undo();
            Due.is("the two entries of bringBack are undone", x.ledger(x.ledgerSize() - 1, 0), 1);
            Due.is("ledgerSize", x.ledgerSize(), Math.min(count + 1, 60));
            Due.is("the oldest is there again", x.ledger(0, 2), count <= 59 ? 100000 : -1);
        }
    }

    private static void entriesOfPassingDaysAcrossTheSixtieth() {
        LibraryCirculation x = new LibraryCirculation();
        entries(x, 59);
        x.claim(1);
        x.claim(2);
        x.set(6, 7);
        x.pass(60);
        Due.is("ledgerSize", x.ledgerSize(), 60);
        Due.is("the oldest", x.ledger(0, 2), -1);
        Due.is("the last but one", x.ledger(58, 3), 1);
        Due.is("the last", x.ledger(59, 3), 2);
        Due.is("its amount", x.ledger(59, 2), 7);
        Due.is("its day", x.ledger(59, 4), 60);
        x.undo();
        Due.is("ledgerSize", x.ledgerSize(), 59);
        Due.is("the oldest", x.ledger(0, 2), 100000);
    }

    private static void entriesOfNothing() {
        LibraryCirculation x = Due.desk(1, 0, 0, 1, 0);
        x.lend(0, 0);
        x.pass(14);
        x.bringBack(0, 0);
        Due.is("a fine of 0", x.ledgerSize(), 0);
        x.set(6, 0);
        x.lend(0, 0);
        Due.is("lose for nothing", x.lose(0), 0);
        Due.is("a price of 0", x.ledgerSize(), 0);
        x.set(6, 100);
        x.bringBack(0, 0);
        Due.is("a price of 0 that is given back, and a fine of 0", x.ledgerSize(), 0);
        x.set(2, 0);
        x.lend(0, 0);
        x.pass(30);
        x.bringBack(0, 0);
        Due.is("a fine for a day of 0", x.ledgerSize(), 0);
        x.set(2, 1000);
        x.set(3, 0);
        x.lend(0, 0);
        x.pass(30);
        x.bringBack(0, 0);
        Due.is("a cap of 0", x.ledgerSize(), 0);
        x.set(3, 1);
        x.lend(0, 0);
        x.set(6, 0);
        x.pass(30);
        x.lose(0);
        x.bringBack(0, 0);
        Due.is("a fine of 1 with a price of 0", x.ledgerSize(), 1);
        Due.is("kind", x.ledger(0, 0), 0);
        Due.is("amount", x.ledger(0, 2), 1);
    }

    private static void everyKindOfEntry() {
        LibraryCirculation x = Due.desk(2, 0, 0, 1, 0);
        x.lend(1, 1);
        x.pass(15);
        x.lose(1);
        x.pass(1);
        x.pay(1, 10);
        x.pass(1);
        x.waive(1, 20);
        x.pass(1);
        x.bringBack(1, 0);
        int[][] want = {{1, 1, 3000, 1, 15}, {3, 1, -10, -1, 16}, {4, 1, -20, -1, 17}, {2, 1, -3000, 1, 18}, {0, 1, 25, 1, 18}};
        Due.is("ledgerSize", x.ledgerSize(), want.length);
        for (int i = 0; i < want.length; i++) {
            for (int what = 0; what < 5; what++) {
                Due.is("ledger(" + i + ", " + what + ")", x.ledger(i, what), want[i][what]);
            }
        }
        Due.is("owes", x.owes(1), -5);
        Due.is("the other patron", x.ledgerSum(0, -1), 0);
    }

    private static void sumsOfEntriesThatAreKept() {
        LibraryCirculation x = new LibraryCirculation();
        entries(x, 60);
        Due.is("prices", x.ledgerSum(0, 1), 100000);
        Due.is("payments", x.ledgerSum(0, 3), -1770);
        Due.is("all", x.ledgerSum(0, -1), 98230);
        x.waive(0, 5);
        Due.is("prices", x.ledgerSum(0, 1), 0);
        Due.is("payments", x.ledgerSum(0, 3), -1770);
        Due.is("waivers", x.ledgerSum(0, 4), -5);
        Due.is("all", x.ledgerSum(0, -1), -1775);
        x.waive(0, 6);
        Due.is("payments", x.ledgerSum(0, 3), -1769);
        Due.is("all", x.ledgerSum(0, -1), -1780);
        Due.is("owes", x.owes(0), 98219);
    }

    private static void ledgerOfASnapshot() {
        LibraryCirculation x = new LibraryCirculation();
        entries(x, 60);
        x.save();
        for (int i = 0; i < 20; i++) {
            x.pay(0, 100);
        }
        Due.is("the oldest", x.ledger(0, 2), -20);
        x.restore();
        Due.is("the oldest of the snapshot", x.ledger(0, 2), 100000);
        Due.is("the latest of the snapshot", x.ledger(59, 2), -59);
        x.undo();
        Due.is("the oldest", x.ledger(0, 2), -20);
        Due.is("the latest", x.ledger(59, 2), -100);
    }
}
