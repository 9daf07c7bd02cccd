/** Promises 24 to 34: patrons, fines, payments and the ledger. */
public final class MoneyTest {
    public static void main(String[] args) {
        patronCountAndOwes();
        accruedAndFine();
        patron();
        loanOf();
        payAndWaive(true);
        payAndWaive(false);
        ledger();
        latestEntries();
        ledgerSum();
        singleCents();
        Due.end();
    }

    private static void patronCountAndOwes() {
        LibraryCirculation x = Due.desk(2, 0, 0);
        Due.is("patronCount", x.patronCount(), 2);
        Due.is("owes", x.owes(1), 0);
        Due.is("no such patron", x.owes(2), -1);
        Due.is("no such patron", x.owes(-1), -1);
        x.lend(1, 0);
        x.lose(0);
        Due.is("owes", x.owes(1), 3000);
        Due.is("owes", x.owes(0), 0);
        x.pay(1, 3000);
        x.bringBack(0, 0);
        Due.is("owes less than nothing", x.owes(1), -3000);
    }

    private static void accruedAndFine() {
        LibraryCirculation x = Due.desk(2, 0, 0, 1, 0, 2, 0, 3, 0);
        x.set(0, 3);
        x.lend(0, 0);
        x.set(0, 5);
        x.lend(0, 1);
        x.lend(1, 2);
        Due.is("nothing yet", x.accrued(0), 0);
        x.pass(3);
        Due.is("nothing on the day it is due", x.accrued(0), 0);
        Due.is("fine", x.fine(0), 0);
        x.pass(3);
        Due.is("fine", x.fine(0), 75);
        Due.is("fine", x.fine(1), 25);
        Due.is("accrued", x.accrued(0), 100);
        Due.is("accrued", x.accrued(1), 25);
        Due.is("not owed", x.owes(0), 0);
        x.pass(100);
        Due.is("each at most the cap", x.accrued(0), 1000);
        x.claim(1);
        Due.is("a claimed copy is no loan", x.accrued(0), 500);
        Due.is("its fine is noted", x.fine(1), 500);
        Due.is("on a shelf", x.fine(3), -2);
        Due.is("no such copy", x.fine(4), -1);
        Due.is("no such copy", x.fine(-1), -1);
        Due.is("no such patron", x.accrued(2), -1);
        Due.is("no such patron", x.accrued(-1), -1);
        x.set(2, 1000);
        x.set(3, 10000);
        for (int i = 0; i < 20; i++) {
            x.pass(400);
        }
        Due.is("at most the cap, after long", x.fine(0), 10000);
        Due.is("noted as it was", x.fine(1), 500);
    }

    private static void patron() {
        LibraryCirculation x = Due.desk(2, 0, 0, 1, 0, 2, 0, 3, 0);
        whats("new", x, 0, 0, 0, 0, 0, 0);
        x.lend(0, 0);
        x.lend(0, 1);
        x.lend(0, 2);
        x.hold(0, 5, 1);
        x.hold(0, 4, 1);
        x.pass(14);
        whats("due on this day", x, 3, 2, 0, 0, 0, 0);
        x.pass(1);
        whats("due before", x, 3, 2, 0, 3, 0, 0);
        x.claim(0);
        whats("claimed", x, 2, 2, 1, 2, 0, 0);
        x.bringBack(1, 0);
        whats("brought back", x, 1, 2, 1, 1, 25, 0);
        x.lose(2);
        whats("lost", x, 0, 2, 1, 0, 3025, 0);
        x.pay(0, 25);
        x.waive(0, 100);
        whats("paid and waived", x, 0, 2, 1, 0, 3025, 125);
        x.bringBack(2, 0);
        whats("brought back", x, 0, 2, 1, 0, 3050, 3125);
        Due.is("owes", x.owes(0), -75);
        for (int what = 0; what < 6; what++) {
            Due.is("the other patron", x.patron(1, what), 0);
        }
        Due.is("wrong what", x.patron(0, 6), -1);
        Due.is("wrong what", x.patron(0, -1), -1);
        Due.is("no such patron", x.patron(2, 0), -1);
        Due.is("no such patron", x.patron(-1, 0), -1);
    }

    private static void whats(String when, LibraryCirculation x, int... want) {
        for (int what = 0; what < want.length; what++) {
            Due.is(when + ": patron(0, " + what + ")", x.patron(0, what), want[what]);
        }
    }

    private static void loanOf() {
        LibraryCirculation x = Due.desk(2, 0, 0, 1, 0, 2, 0, 3, 0, 4, 0);
        x.set(0, 9);
        x.lend(0, 0);
        x.lend(0, 3);
        x.set(0, 4);
        x.lend(0, 4);
        x.set(0, 9);
        x.lend(0, 1);
        x.lend(1, 2);
        int[] want = {4, 0, 1, 3};
        for (int i = 0; i < want.length; i++) {
            Due.is("loanOf(0, " + i + ")", x.loanOf(0, i), want[i]);
        }
        Due.is("no such position", x.loanOf(0, 4), -2);
        Due.is("no such position", x.loanOf(0, -1), -2);
        Due.is("no such position", x.loanOf(0, Integer.MIN_VALUE), -2);
        Due.is("loanOf", x.loanOf(1, 0), 2);
        Due.is("no such patron", x.loanOf(2, 0), -1);
        Due.is("no such patron", x.loanOf(-1, 0), -1);
        x.claim(0);
        Due.is("a claimed copy is no loan", x.loanOf(0, 1), 1);
    }

    private static void payAndWaive(boolean pays) {
        LibraryCirculation x = Due.desk(2, 0, 0);
        Due.is("nothing to pay", take(x, pays, 0, 1), -1);
        x.lend(0, 0);
        x.lose(0);
        int[] wrong = {0, -1, 3001, Integer.MAX_VALUE, Integer.MIN_VALUE};
        for (int amount : wrong) {
            Due.is("wrong amount", take(x, pays, 0, amount), -1);
        }
        Due.is("no such patron", take(x, pays, 2, 1), -1);
        Due.is("no such patron", take(x, pays, -1, 1), -1);
        x.pass(4);
        Due.is("a part", take(x, pays, 0, 1), 2999);
        Due.is("the rest", take(x, pays, 0, 2999), 0);
        Due.is("nothing more", take(x, pays, 0, 1), -1);
        Due.is("entries", x.ledgerSize(), 3);
        int[] want = {pays ? 3 : 4, 0, -1, -1, 4};
        for (int what = 0; what < want.length; what++) {
            Due.is("ledger(1, " + what + ")", x.ledger(1, what), want[what]);
        }
        x.bringBack(0, 0);
        Due.is("less than nothing can't be paid", take(x, pays, 0, 1), -1);
    }

    private static int take(LibraryCirculation x, boolean pays, int patron, int amount) {
        return pays ? x.pay(patron, amount) : x.waive(patron, amount);
    }

    private static void ledger() {
        LibraryCirculation x = Due.desk(2, 0, 0);
        Due.is("empty", x.ledger(0, 0), Integer.MIN_VALUE);
        x.pass(2);
        x.lend(1, 0);
        x.lose(0);
        Due.is("ledgerSize", x.ledgerSize(), 1);
        int[] want = {1, 1, 3000, 0, 2};
        for (int what = 0; what < want.length; what++) {
            Due.is("ledger(0, " + what + ")", x.ledger(0, what), want[what]);
        }
        int none = Integer.MIN_VALUE;
        Due.is("no such entry", x.ledger(1, 0), none);
        Due.is("no such entry", x.ledger(-1, 0), none);
        Due.is("no such entry", x.ledger(Integer.MAX_VALUE, 0), none);
        Due.is("no such what", x.ledger(0, 5), none);
        Due.is("no such what", x.ledger(0, -1), none);
    }

    private static void latestEntries() {
        LibraryCirculation x = Due.desk(1, 0, 0);
        x.lend(0, 0);
        x.lose(0);
        for (int amount = 1; amount <= 59; amount++) {
            x.pay(0, amount);
        }
        Due.is("ledgerSize", x.ledgerSize(), 60);
        Due.is("the first is kept", x.ledger(0, 0), 1);
        x.pay(0, 60);
        Due.is("ledgerSize", x.ledgerSize(), 60);
        Due.is("the first is kept no more", x.ledger(0, 2), -1);
        Due.is("the latest", x.ledger(59, 2), -60);
        Due.is("no such entry", x.ledger(60, 2), Integer.MIN_VALUE);
        Due.is("sum of those kept", x.ledgerSum(0, -1), -1830);
        Due.is("charged, of all", x.patron(0, 4), 3000);
        x.pay(0, 1);
        Due.is("the oldest", x.ledger(0, 2), -2);
        Due.is("paid, of all", x.patron(0, 5), 1831);
        x.undo();
        Due.is("undone", x.ledger(0, 2), -1);
    }

    private static void ledgerSum() {
        LibraryCirculation x = Due.desk(2, 0, 0, 1, 0);
        x.lend(0, 0);
        x.lend(1, 1);
        x.pass(18);
        x.lose(0);
        x.bringBack(1, 0);
        x.pay(0, 20);
        x.pay(0, 30);
        x.waive(0, 5);
        x.bringBack(0, 0);
        int[] want = {100, 3000, -3000, -50, -5};
        for (int kind = 0; kind < want.length; kind++) {
            Due.is("ledgerSum(0, " + kind + ")", x.ledgerSum(0, kind), want[kind]);
        }
        Due.is("all kinds", x.ledgerSum(0, -1), 45);
        Due.is("the other patron", x.ledgerSum(1, -1), 100);
        int none = Integer.MIN_VALUE;
        Due.is("no such kind", x.ledgerSum(0, 5), none);
        Due.is("no such kind", x.ledgerSum(0, -2), none);
        Due.is("no such patron", x.ledgerSum(2, 0), none);
        Due.is("no such patron", x.ledgerSum(-1, 0), none);
    }

    private static void singleCents() {
        LibraryCirculation x = Due.desk(1, 0, 0);
        x.set(2, 1);
        x.set(6, 1);
        x.lend(0, 0);
        x.pass(15);
        Due.is("lose", x.lose(0), 1);
        Due.is("charged", x.patron(0, 4), 1);
        x.bringBack(0, 0);
        Due.is("given back", x.patron(0, 5), 1);
        Due.is("charged", x.patron(0, 4), 2);
        Due.is("pay", x.pay(0, 1), 0);
        Due.is("paid", x.patron(0, 5), 2);
        Due.is("entries", x.ledgerSize(), 4);
    }
}
