/** Promises 16 to 23: holds, their queues, reasons and estimates. */
public final class HoldsTest {
    public static void main(String[] args) {
        holdTakesTheNearestCopy();
        holdAtTheShelfOfItsBranch();
        holdRecalls();
        recallOfALateLoan();
        recallAfterSevenDays();
        recallOfTheEarliest();
        holdReasons();
        holdWrong();
        mostHolds();
        cancelWaiting();
        cancelOnTheHoldShelf();
        cancelOnTheWay();
        reasons();
        counts();
        holdAt();
        place();
        estimate();
        Due.end();
    }

    private static void holdTakesTheNearestCopy() {
        LibraryCirculation x = Due.desk(2, 0, 3, 0, 0, 0, 2, 0, 2, 1, 1);
        Due.is("hold", x.hold(0, 0, 1), 0);
        Due.is("the lowest of those a day away", x.holdAt(0, 0, 2), 1);
        Due.is("on the way", x.copy(1, 3), 2);
        Due.is("arrives", x.copy(1, 6), 1);
        Due.is("hold", x.hold(1, 0, 1), 0);
        Due.is("the next", x.holdAt(0, 1, 2), 2);
        Due.is("the far one stays", x.copy(0, 3), 0);
        Due.is("another title stays", x.copy(4, 3), 0);
    }

    private static void holdAtTheShelfOfItsBranch() {
        LibraryCirculation x = Due.desk(1, 0, 3, 0, 1);
        x.pass(2);
        Due.is("hold", x.hold(0, 0, 1), 0);
        Due.is("on the hold shelf", x.copy(1, 3), 3);
        Due.is("expires", x.copy(1, 6), 9);
        Due.is("nothing is recalled or sent", x.copy(0, 3), 0);
    }

    private static void holdRecalls() {
        LibraryCirculation x = Due.desk(3, 0, 0);
        x.lend(0, 0);
        x.pass(1);
        Due.is("hold", x.hold(1, 0, 0), 1);
        Due.is("due seven days after its beginning", x.copy(0, 6), 7);
        Due.is("recalled", x.copy(0, 9), 1);
        x.pass(5);
        Due.is("hold", x.hold(2, 0, 0), 2);
        Due.is("recalled once", x.copy(0, 6), 7);
        x.pass(2);
        Due.is("late", x.fine(0), 25);
        LibraryCirculation y = Due.desk(2, 0, 0);
        y.set(0, 5);
        y.lend(0, 0);
        y.hold(1, 0, 0);
        Due.is("due as before", y.copy(0, 6), 5);
        Due.is("but recalled", y.copy(0, 9), 1);
    }

    private static void recallOfALateLoan() {
        LibraryCirculation x = Due.desk(2, 0, 0);
        x.lend(0, 0);
        x.pass(20);
        x.hold(1, 0, 0);
        Due.is("due as before", x.copy(0, 6), 14);
        Due.is("recalled", x.copy(0, 9), 1);
    }

    private static void recallAfterSevenDays() {
        LibraryCirculation x = Due.desk(2, 0, 0);
        x.lend(0, 0);
        x.pass(5);
        x.hold(1, 0, 0);
        Due.is("three days from now", x.copy(0, 6), 8);
    }

    private static void recallOfTheEarliest() {
        LibraryCirculation x = Due.desk(6, 0, 0, 0, 0, 0, 0, 1, 0, 0, 0);
        x.lend(0, 3);
        x.lend(0, 4);
        x.claim(4);
        x.pass(1);
        x.lend(1, 2);
        x.lend(0, 1);
        x.pass(1);
        x.lend(2, 0);
        x.hold(3, 0, 0);
        Due.is("the lowest of the earliest", x.copy(1, 9), 1);
        Due.is("not the other", x.copy(2, 9), 0);
        x.hold(4, 0, 0);
        Due.is("then the other", x.copy(2, 9), 1);
        Due.is("not the later one", x.copy(0, 9), 0);
        x.hold(5, 0, 0);
        Due.is("then the later one", x.copy(0, 9), 1);
        Due.is("never another title", x.copy(3, 9), 0);
        Due.is("never a claimed copy", x.copy(4, 9), 0);
        Due.is("nor its day", x.copy(4, 6), 0);
    }

    private static void holdReasons() {
        LibraryCirculation x = Due.desk(2, 0, 0, 1, 0, 5, 0);
        x.lend(0, 0);
        Due.is("a loan of the title", x.hold(0, 0, 0), -104);
        Due.is("hold", x.hold(0, 1, 0), 0);
        Due.is("a hold of the title", x.hold(0, 1, 3), -103);
        x.lend(0, 1);
        Due.is("hold", x.hold(0, 2, 0), 1);
        Due.is("hold", x.hold(0, 3, 0), 1);
        Due.is("hold", x.hold(0, 4, 0), 1);
        Due.is("three holds, before a hold of the title", x.hold(0, 4, 0), -102);
        Due.is("three holds, before a loan of the title", x.hold(0, 0, 0), -102);
        Due.is("three holds", x.hold(0, 5, 0), -102);
        x.set(6, 1000);
        x.lose(1);
        Due.is("owes the limit", x.hold(0, 5, 0), -101);
        x.cancelHold(0, 2);
        x.waive(0, 1);
        Due.is("owes less", x.hold(0, 5, 0), 0);
        x.cancelHold(0, 3);
        x.claim(0);
        Due.is("a claimed copy is no loan", x.hold(0, 0, 0), 1);
    }

    private static void holdWrong() {
        LibraryCirculation x = Due.desk(1, 0, 0);
        int[][] wrong = {{1, 0, 0}, {-1, 0, 0}, {0, -1, 0}, {0, 6, 0}, {0, 0, -1}, {0, 0, 4}, {0, 0, Integer.MIN_VALUE}};
        for (int[] call : wrong) {
            Due.is("hold wrong", x.hold(call[0], call[1], call[2]), -1);
        }
        x.hold(0, 0, 0);
        Due.is("BAD before the reasons", x.hold(0, 0, 4), -1);
        Due.is("holdCount", x.holdCount(-1), 1);
    }

    private static void mostHolds() {
        LibraryCirculation x = Due.desk(8);
        for (int patron = 0; patron < 8; patron++) {
            for (int title = 0; title < 3; title++) {
                Due.is("hold", x.hold(patron, title, 0), patron + 1);
            }
        }
        Due.is("holdCount", x.holdCount(-1), 24);
        Due.is("three holds, before FULL", x.hold(0, 3, 0), -102);
        for (int copy = 0; copy < 8; copy++) {
            Due.is("addCopy", x.addCopy(1, 0), copy);
            Due.is("for the next in the queue", x.copy(copy, 5), copy);
        }
        Due.is("waiting", x.waiting(1), 0);
    }

    private static void cancelWaiting() {
        LibraryCirculation x = Due.desk(4, 0, 0);
        x.lend(3, 0);
        for (int patron = 0; patron < 3; patron++) {
            x.hold(patron, 0, 0);
        }
        int[][] wrong = {{4, 0}, {-1, 0}, {0, 6}, {0, -1}};
        for (int[] pair : wrong) {
            Due.is("cancelHold wrong", x.cancelHold(pair[0], pair[1]), -1);
        }
        Due.is("no hold of the title", x.cancelHold(0, 1), -2);
        Due.is("no hold of the patron", x.cancelHold(3, 0), -2);
        Due.is("cancelHold", x.cancelHold(1, 0), 2);
        Due.is("first", x.holdAt(0, 0, 0), 0);
        Due.is("second", x.holdAt(0, 1, 0), 2);
        Due.is("the loan stays recalled", x.copy(0, 9), 1);
        Due.is("it can be made again, at the end", x.hold(1, 0, 3), 3);
        Due.is("place", x.place(1, 0), 2);
    }

    private static void cancelOnTheHoldShelf() {
        LibraryCirculation x = Due.desk(3, 0, 1);
        x.hold(0, 0, 2);
        x.hold(1, 0, 2);
        x.hold(2, 0, 1);
        x.pass(1);
        x.pass(1);
        Due.is("cancelHold", x.cancelHold(0, 0), 2);
        Due.is("for the next, there", x.copy(0, 5), 1);
        Due.is("on the hold shelf", x.copy(0, 3), 3);
        Due.is("expires anew", x.copy(0, 6), 9);
        Due.is("cancelHold", x.cancelHold(1, 0), 1);
        Due.is("for the next, elsewhere", x.copy(0, 3), 2);
        Due.is("arrives", x.copy(0, 6), 3);
        x.pass(1);
        Due.is("cancelHold", x.cancelHold(2, 0), 0);
        Due.is("at home", x.copy(0, 3), 0);
    }

    private static void cancelOnTheWay() {
        LibraryCirculation x = Due.desk(2, 0, 0);
        x.hold(0, 0, 3);
        x.hold(1, 0, 1);
        Due.is("cancelHold", x.cancelHold(0, 0), 1);
        Due.is("it goes on", x.copy(0, 3), 2);
        Due.is("to the same branch", x.copy(0, 4), 3);
        Due.is("without a hold", x.copy(0, 5), -2);
        Due.is("the other hold waits", x.holdAt(0, 0, 2), -2);
        Due.is("estimate", x.estimate(1, 0), 3);
        x.pass(3);
        Due.is("arrived and sent on", x.copy(0, 4), 1);
        Due.is("for the other hold", x.copy(0, 5), 1);
        Due.is("arrives", x.copy(0, 6), 5);
        x.cancelHold(1, 0);
        x.pass(2);
        Due.is("arrived and sent home", x.copy(0, 4), 0);
        Due.is("arrives", x.copy(0, 6), 6);
    }

    private static void reasons() {
        LibraryCirculation x = Due.desk(2, 0, 0, 1, 0);
        Due.is("lend", x.reason(0, 0, 0), 0);
        x.lend(0, 0);
        Due.is("lend", x.reason(0, 1, 0), 3);
        Due.is("lend, no such copy", x.reason(0, 1, 2), -1);
        Due.is("lend, no such patron", x.reason(0, 2, 0), -1);
        x.set(1, 1);
        Due.is("lend", x.reason(0, 0, 1), 2);
        Due.is("renew", x.reason(1, 0, 0), 5);
        Due.is("renew", x.reason(1, 1, 0), 1);
        x.pass(1);
        Due.is("renew", x.reason(1, 0, 0), 0);
        Due.is("renew, b", x.reason(1, 0, 1), -1);
        Due.is("renew, no such copy", x.reason(1, 2, 0), -1);
        Due.is("claim", x.reason(2, 0, 0), 0);
        Due.is("claim", x.reason(2, 1, 0), 1);
        Due.is("claim, b", x.reason(2, 0, -1), -1);
        Due.is("claim, no such copy", x.reason(2, -1, 0), -1);
        Due.is("lose", x.reason(3, 0, 0), 0);
        Due.is("lose", x.reason(3, 1, 0), 1);
        Due.is("lose, b", x.reason(3, 0, 5), -1);
        Due.is("lose, no such copy", x.reason(3, 2, 0), -1);
        Due.is("hold", x.reason(4, 0, 0), 4);
        Due.is("hold", x.reason(4, 1, 5), 0);
        Due.is("hold, no such title", x.reason(4, 1, 6), -1);
        Due.is("hold, no such patron", x.reason(4, -1, 0), -1);
        Due.is("no such kind", x.reason(5, 0, 0), -1);
        Due.is("no such kind", x.reason(-1, 0, 0), -1);
        x.lose(0);
        Due.is("lend", x.reason(0, 0, 1), 1);
        Due.is("hold", x.reason(4, 0, 1), 1);
        Due.is("it is no call", x.copy(1, 3), 0);
    }

    private static void counts() {
        LibraryCirculation x = Due.desk(3, 0, 0);
        x.hold(0, 0, 1);
        x.hold(1, 0, 1);
        x.hold(1, 2, 1);
        Due.is("holdCount", x.holdCount(0), 2);
        Due.is("holdCount", x.holdCount(1), 0);
        Due.is("holdCount", x.holdCount(2), 1);
        Due.is("holdCount of all", x.holdCount(-1), 3);
        Due.is("holdCount wrong", x.holdCount(6), -1);
        Due.is("holdCount wrong", x.holdCount(-2), -1);
        Due.is("waiting", x.waiting(0), 1);
        Due.is("waiting", x.waiting(1), 0);
        Due.is("waiting", x.waiting(2), 1);
        Due.is("waiting wrong", x.waiting(-1), -1);
        Due.is("waiting wrong", x.waiting(6), -1);
    }

    private static void holdAt() {
        LibraryCirculation x = Due.desk(3, 1, 0);
        x.hold(2, 0, 1);
        x.hold(2, 1, 3);
        x.hold(0, 1, 2);
        Due.is("patron", x.holdAt(1, 0, 0), 2);
        Due.is("branch", x.holdAt(1, 0, 1), 3);
        Due.is("copy", x.holdAt(1, 0, 2), 0);
        Due.is("patron", x.holdAt(1, 1, 0), 0);
        Due.is("branch", x.holdAt(1, 1, 1), 2);
        Due.is("copy", x.holdAt(1, 1, 2), -2);
        Due.is("no such hold", x.holdAt(1, 2, 0), -2);
        Due.is("no such hold", x.holdAt(1, -1, 0), -2);
        Due.is("no such hold", x.holdAt(2, 0, 0), -2);
        Due.is("no such hold", x.holdAt(1, Integer.MAX_VALUE, 2), -2);
        Due.is("wrong title", x.holdAt(6, 0, 0), -1);
        Due.is("wrong title", x.holdAt(-1, 0, 0), -1);
        Due.is("wrong what", x.holdAt(1, 0, 3), -1);
        Due.is("wrong what", x.holdAt(1, 0, -1), -1);
        Due.is("wrong what, before no such hold", x.holdAt(1, 2, 3), -1);
    }

    private static void place() {
        LibraryCirculation x = Due.desk(4, 1, 0);
        x.hold(3, 1, 0);
        x.hold(3, 0, 0);
        x.hold(1, 1, 0);
        x.hold(0, 1, 0);
        Due.is("a hold with its copy", x.place(3, 1), 0);
        Due.is("place", x.place(1, 1), 1);
        Due.is("place", x.place(0, 1), 2);
        Due.is("place", x.place(3, 0), 0);
        Due.is("no hold", x.place(2, 1), -2);
        Due.is("no hold", x.place(0, 0), -2);
        Due.is("wrong", x.place(4, 0), -1);
        Due.is("wrong", x.place(-1, 0), -1);
        Due.is("wrong", x.place(0, 6), -1);
        Due.is("wrong", x.place(0, -1), -1);
    }

    private static void estimate() {
        LibraryCirculation x = Due.desk(8, 0, 0, 0, 0, 0, 0, 0, 0, 1, 0);
        x.set(0, 5);
        x.lend(0, 0);
        x.set(0, 30);
        x.lend(0, 1);
        x.lend(7, 4);
        x.lend(1, 2);
        x.lend(2, 3);
        x.pass(6);
        x.hold(3, 0, 0);
        Due.is("a late loan", x.copy(0, 6), 5);
        Due.is("counts as the present day", x.estimate(3, 0), 6);
        x.hold(4, 0, 0);
        Due.is("a recalled loan", x.copy(1, 6), 9);
        Due.is("estimate", x.estimate(4, 0), 9);
        x.hold(5, 0, 0);
        x.hold(6, 0, 0);
        Due.is("estimate", x.estimate(5, 0), 9);
        Due.is("estimate", x.estimate(6, 0), 9);
        x.hold(7, 0, 0);
        Due.is("no such position", x.estimate(7, 0), -2);
        x.bringBack(0, 3);
        Due.is("has its copy", x.estimate(3, 0), -2);
        Due.is("the next is before", x.estimate(4, 0), 9);
        Due.is("none for the last but one", x.estimate(7, 0), -2);
        x.cancelHold(3, 0);
        Due.is("on the way without a hold", x.copy(0, 6), 9);
        Due.is("counts", x.estimate(7, 0), 9);
        x.claim(1);
        Due.is("claimed counts no more", x.estimate(7, 0), -2);
        Due.is("no hold", x.estimate(0, 0), -2);
        Due.is("no hold of the title", x.estimate(4, 1), -2);
        Due.is("wrong", x.estimate(8, 0), -1);
        Due.is("wrong", x.estimate(-1, 0), -1);
        Due.is("wrong", x.estimate(0, 6), -1);
        Due.is("wrong", x.estimate(0, -1), -1);
        LibraryCirculation y = Due.desk(5, 0, 0, 0, 0, 0, 0);
        y.set(0, 4);
        y.lend(0, 2);
        y.set(0, 2);
        y.lend(1, 1);
        y.set(0, 3);
        y.lend(2, 0);
        y.hold(3, 0, 0);
        y.hold(4, 0, 0);
        Due.is("the earliest day, not the lowest copy", y.estimate(3, 0), 2);
        Due.is("the next day", y.estimate(4, 0), 3);
    }
}
