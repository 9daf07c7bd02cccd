/** Promises 11 to 15: lend, bringBack, renew, claim and lose. */
public final class LoansTest {
    public static void main(String[] args) {
        lend();
        lendReasons();
        lendFromTheHoldShelf();
        lendLeavesAnotherHold();
        bringBackFromLoan();
        bringBackFromClaim();
        bringBackFromLost();
        bringBackWrong();
        renew();
        renewReasons();
        renewAtTheLimit();
        claim();
        loseLoan();
        loseClaimed();
        loseBelowNothing();
        Due.end();
    }

    private static void lend() {
        LibraryCirculation x = Due.desk(1, 0, 0, 1, 1);
        int[][] wrong = {{1, 0}, {-1, 0}, {0, 2}, {0, -1}, {Integer.MAX_VALUE, Integer.MIN_VALUE}};
        for (int[] pair : wrong) {
            Due.is("lend wrong", x.lend(pair[0], pair[1]), -1);
        }
        Due.is("lend", x.lend(0, 1), 14);
        x.pass(5);
        x.set(0, 60);
        Due.is("lend", x.lend(0, 0), 65);
        Due.is("state", x.copy(0, 3), 1);
        Due.is("patron", x.copy(0, 4), 0);
        Due.is("began", x.copy(0, 7), 5);
        Due.is("renewals", x.copy(0, 8), 0);
        Due.is("recalled", x.copy(0, 9), 0);
    }

    private static void lendReasons() {
        LibraryCirculation x = Due.desk(2, 0, 0, 1, 0, 2, 0, 3, 0);
        x.set(1, 2);
        x.lend(0, 0);
        Due.is("a copy on loan", x.lend(1, 0), -103);
        Due.is("a copy on loan to the patron", x.lend(0, 0), -103);
        x.lend(0, 1);
        Due.is("as many loans as allowed, and the copy is there", x.lend(0, 2), -102);
        Due.is("as many loans as allowed, before the copy", x.lend(0, 0), -102);
        x.set(1, 1);
        Due.is("more loans than allowed", x.lend(0, 2), -102);
        x.set(6, 1000);
        x.lose(0);
        Due.is("owes the limit", x.lend(0, 2), -101);
        Due.is("refused changes nothing", x.copy(2, 3), 0);
        x.pay(0, 1);
        Due.is("owes less than the limit", x.lend(0, 2), -102);
        x.set(1, 2);
        Due.is("a lost copy", x.lend(0, 0), -103);
        x.claim(1);
        Due.is("a claimed copy", x.lend(0, 1), -103);
        Due.is("allowed", x.lend(0, 2), 14);
        x.set(4, 999);
        Due.is("owes the limit that is set", x.lend(0, 3), -101);
        x.hold(1, 3, 2);
        Due.is("a copy on the way for the patron", x.lend(1, 3), -103);
    }

    private static void lendFromTheHoldShelf() {
        LibraryCirculation x = Due.desk(3, 0, 0);
        x.hold(0, 0, 0);
        x.hold(1, 0, 0);
        Due.is("for another", x.lend(1, 0), -103);
        Due.is("for nobody", x.lend(2, 0), -103);
        Due.is("lend", x.lend(0, 0), 14);
        Due.is("the hold is removed", x.place(0, 0), -2);
        Due.is("the other hold is first", x.place(1, 0), 0);
        Due.is("holder", x.copy(0, 5), -2);
        Due.is("not recalled", x.copy(0, 9), 0);
        Due.is("due", x.copy(0, 6), 14);
    }

    private static void lendLeavesAnotherHold() {
        LibraryCirculation x = Due.desk(2, 0, 0, 0, 0);
        x.hold(0, 0, 3);
        Due.is("its copy is on the way", x.holdAt(0, 0, 2), 0);
        Due.is("lend the other copy", x.lend(0, 1), 14);
        Due.is("the hold stays", x.place(0, 0), 0);
        Due.is("with its copy", x.holdAt(0, 0, 2), 0);
        x.pass(3);
        Due.is("both", x.lend(0, 0), 17);
        Due.is("the hold is removed", x.holdCount(0), 0);
    }

    private static void bringBackFromLoan() {
        LibraryCirculation x = Due.desk(2, 0, 1, 0, 1);
        x.lend(0, 0);
        x.lend(0, 1);
        x.pass(14);
        Due.is("on the day it is due", x.bringBack(0, 1), 0);
        Due.is("owes nothing", x.owes(0), 0);
        Due.is("no entry of 0", x.ledgerSize(), 0);
        x.pass(3);
        Due.is("late, elsewhere", x.bringBack(1, 3), 2);
        Due.is("owes", x.owes(0), 75);
        Due.is("kind", x.ledger(0, 0), 0);
        Due.is("patron", x.ledger(0, 1), 0);
        Due.is("amount", x.ledger(0, 2), 75);
        Due.is("copy", x.ledger(0, 3), 1);
        Due.is("day", x.ledger(0, 4), 17);
        Due.is("on the way home", x.copy(1, 4), 1);
        x.lend(0, 0);
        x.hold(1, 0, 2);
        Due.is("recalled", x.copy(0, 6), 24);
        Due.is("for the hold, at its branch", x.bringBack(0, 2), 3);
        Due.is("holder", x.copy(0, 5), 1);
        x.pass(400);
        x.lend(1, 0);
        x.pass(400);
        x.bringBack(0, 1);
        Due.is("at most the cap", x.owes(1), 500);
    }

    private static void bringBackFromClaim() {
        LibraryCirculation x = Due.desk(1, 0, 0);
        x.lend(0, 0);
        x.pass(20);
        x.claim(0);
        Due.is("claims", x.patron(0, 2), 1);
        Due.is("bringBack", x.bringBack(0, 0), 0);
        Due.is("nothing is charged", x.owes(0), 0);
        Due.is("ledger", x.ledgerSize(), 0);
        Due.is("claims", x.patron(0, 2), 0);
        Due.is("fine", x.fine(0), -2);
    }

    private static void bringBackFromLost() {
        LibraryCirculation x = Due.desk(1, 0, 0);
        x.lend(0, 0);
        x.pass(20);
        x.lose(0);
        x.pass(20);
        x.set(6, 1);
        x.set(2, 1000);
        Due.is("bringBack", x.bringBack(0, 0), 0);
        Due.is("owes the fine that was noted", x.owes(0), 150);
        Due.is("entries", x.ledgerSize(), 3);
        Due.is("first the price back", x.ledger(1, 0), 2);
        Due.is("as it was charged", x.ledger(1, 2), -3000);
        Due.is("of the copy", x.ledger(1, 3), 0);
        Due.is("then the fine", x.ledger(2, 0), 0);
        Due.is("as it was noted", x.ledger(2, 2), 150);
        Due.is("on that day", x.ledger(2, 4), 40);
        LibraryCirculation y = Due.desk(1, 0, 0);
        y.lend(0, 0);
        y.pass(20);
        y.claim(0);
        y.pass(60);
        Due.is("lost by itself", y.copy(0, 3), 5);
        y.bringBack(0, 2);
        Due.is("owes the fine that was noted by the claim", y.owes(0), 150);
        Due.is("claims stay", y.patron(0, 2), 1);
    }

    private static void bringBackWrong() {
        LibraryCirculation x = Due.desk(2, 0, 0);
        int[][] wrong = {{1, 0}, {-1, 0}, {0, 4}, {0, -1}, {Integer.MIN_VALUE, 0}, {0, Integer.MAX_VALUE}};
        for (int[] pair : wrong) {
            Due.is("bringBack wrong", x.bringBack(pair[0], pair[1]), -1);
        }
        Due.is("on the shelf", x.bringBack(0, 0), -2);
        x.hold(0, 0, 1);
        Due.is("on the way", x.bringBack(0, 0), -2);
        x.pass(1);
        Due.is("on the hold shelf", x.bringBack(0, 0), -2);
        Due.is("there still", x.copy(0, 4), 1);
    }

    private static void renew() {
        LibraryCirculation x = Due.desk(1, 0, 0);
        Due.is("no such copy", x.renew(1), -1);
        Due.is("no such copy", x.renew(-1), -1);
        x.lend(0, 0);
        x.pass(20);
        Due.is("renew a late loan", x.renew(0), 34);
        Due.is("due", x.copy(0, 6), 34);
        Due.is("the beginning stays", x.copy(0, 7), 0);
        Due.is("renewals", x.copy(0, 8), 1);
        Due.is("no fine", x.fine(0), 0);
        x.pass(1);
        Due.is("renew", x.renew(0), 35);
        Due.is("renewals", x.copy(0, 8), 2);
        x.pass(1);
        Due.is("renewed twice", x.renew(0), -102);
        x.bringBack(0, 0);
        Due.is("lend anew", x.lend(0, 0), 36);
        Due.is("renewals anew", x.copy(0, 8), 0);
    }

    private static void renewReasons() {
        LibraryCirculation x = Due.desk(4, 0, 0, 0, 0, 0, 0);
        Due.is("not on loan", x.renew(0), -101);
        x.lend(0, 0);
        Due.is("not later", x.renew(0), -105);
        x.lend(1, 1);
        x.lend(3, 2);
        x.pass(1);
        Due.is("hold", x.hold(2, 0, 0), 1);
        Due.is("recalled", x.copy(0, 9), 1);
        Due.is("recalled", x.renew(0), -103);
        Due.is("a hold is waiting", x.renew(1), -103);
        x.bringBack(2, 0);
        Due.is("recalled, none is waiting", x.renew(0), -103);
        Due.is("a hold that has its copy is not waiting", x.renew(1), 15);
        x.claim(0);
        Due.is("claimed", x.renew(0), -101);
        x.pass(1);
        Due.is("renew", x.renew(1), 16);
        Due.is("renewed twice, before not later", x.renew(1), -102);
    }

    private static void renewAtTheLimit() {
        LibraryCirculation x = Due.desk(2, 0, 0, 1, 0, 1, 0);
        x.lend(0, 0);
        x.lend(0, 1);
        x.set(6, 1000);
        x.lose(1);
        Due.is("owes the limit, before not later", x.renew(0), -104);
        x.pass(1);
        Due.is("owes the limit", x.renew(0), -104);
        x.waive(0, 1);
        Due.is("owes less", x.renew(0), 15);
        x.lend(1, 2);
        x.set(0, 1);
        Due.is("would be due earlier", x.renew(2), -105);
    }

    private static void claim() {
        LibraryCirculation x = Due.desk(2, 0, 0, 1, 0, 2, 0, 3, 0);
        Due.is("no such copy", x.claim(4), -1);
        Due.is("no such copy", x.claim(-1), -1);
        Due.is("not on loan", x.claim(0), -101);
        x.lend(0, 0);
        x.lend(0, 1);
        x.lend(0, 2);
        x.lend(1, 3);
        x.pass(16);
        Due.is("claim", x.claim(0), 50);
        Due.is("the day of the claim", x.copy(0, 6), 16);
        Due.is("patron", x.copy(0, 4), 0);
        Due.is("noted", x.fine(0), 50);
        Due.is("not charged", x.owes(0), 0);
        Due.is("no loan", x.patron(0, 0), 2);
        Due.is("claimed already", x.claim(0), -101);
        x.pass(1);
        Due.is("claim", x.claim(1), 75);
        Due.is("noted, as it was", x.fine(0), 50);
        Due.is("two claims", x.claim(2), -102);
        Due.is("another patron", x.claim(3), 75);
        x.lose(0);
        Due.is("a lost copy counts on", x.claim(2), -102);
        x.bringBack(0, 0);
        Due.is("and when it came back", x.claim(2), -102);
        x.bringBack(1, 0);
        Due.is("one claim less", x.claim(2), 75);
        Due.is("claims", x.patron(0, 2), 2);
        Due.is("lost: not on loan", x.lose(0), -101);
    }

    private static void loseLoan() {
        LibraryCirculation x = Due.desk(1, 0, 0);
        Due.is("no such copy", x.lose(1), -1);
        Due.is("no such copy", x.lose(-1), -1);
        Due.is("on the shelf", x.lose(0), -101);
        x.lend(0, 0);
        x.pass(15);
        Due.is("lose", x.lose(0), 3000);
        Due.is("state", x.copy(0, 3), 5);
        Due.is("patron", x.copy(0, 4), 0);
        Due.is("the fine is noted", x.fine(0), 25);
        Due.is("entry", x.ledger(0, 0), 1);
        Due.is("copy", x.ledger(0, 3), 0);
        Due.is("one entry", x.ledgerSize(), 1);
        x.pass(9);
        Due.is("the fine is noted", x.fine(0), 25);
        Due.is("lost already", x.lose(0), -101);
        Due.is("renew", x.renew(0), -101);
    }

    private static void loseClaimed() {
        LibraryCirculation x = Due.desk(1, 0, 0);
        x.lend(0, 0);
        x.pass(18);
        x.claim(0);
        x.pass(5);
        Due.is("lose", x.lose(0), 3000);
        Due.is("the fine that was noted by the claim", x.fine(0), 100);
        Due.is("claims stay", x.patron(0, 2), 1);
        Due.is("what 6", x.copy(0, 6), -2);
    }

    /** What the patron owes can look like an error code; the copy is lost nevertheless, and it is a change. */
    private static void loseBelowNothing() {
        for (int below = 1; below <= 3; below++) {
            LibraryCirculation x = Due.desk(1, 0, 0, 1, 0);
            x.lend(0, 0);
            x.lose(0);
            x.pay(0, below);
            x.bringBack(0, 0);
            Due.is("owes less than nothing", x.owes(0), -below);
            x.set(6, 0);
            x.lend(0, 1);
            Due.is("lose for nothing", x.lose(1), -below);
            Due.is("lost", x.copy(1, 3), 5);
            Due.is("no entry of 0", x.ledgerSize(), 3);
            x.undo();
            Due.is("undone: on loan", x.copy(1, 3), 1);
            x.undo();
            Due.is("undone: on the shelf", x.copy(1, 3), 0);
        }
    }
}
