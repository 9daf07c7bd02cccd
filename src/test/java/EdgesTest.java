/** The edges that the sections on days, loans, recalls, claims, lost copies, holds and free copies name. */
public final class EdgesTest {
    private static final int NONE = LibraryCirculation.NONE;

    public static void main(String[] args) {
        waysBetweenBranches();
        arrivesOnItsDay();
        daysOfALoan();
        lateFinePerDay();
        capOfAFine();
        recallByDaysSinceTheBeginning();
        recallByTheDayItWasDue();
        recallOfALoanThatIsLate();
        recallOfARenewedLoan();
        recallWhenThereIsNone();
        noRecallWhenACopyIsOnAShelf();
        nearestCopy();
        nearestIsNotOnAHoldShelf();
        expiryByDaysOnAHoldShelf();
        expiredCopyGoesToTheNextHold();
        arrivalOnTheHoldShelfOfToday();
        claimEndsByDays();
        claimEndsWhenTheSettingIsLowered();
        claimEndsBeforeItIsBroughtBack();
        claimMadeTodayWithOneDay();
        lostFromLoanAndFromClaim();
        lostPriceIsThatOfTheDay();
        lentAgainAfterItWasLost();
        lentAgainAfterItWasClaimed();
        orderOfArrivals();
        orderOfExpiries();
        arrivalsBeforeExpiries();
        expiriesBeforeClaims();
        daysOneByOneOrTogether();
        freeAtEachBranch();
        floatingFromNowOn();
        settingsFromNowOn();
        freeCopyForTheFirstThatWaits();
        cancelledOnTheWay();
        loanOfAnotherCopyKeepsTheHold();
        estimatePositions();
        estimateOfThePresentDay();
        orderOfLoans();
        orderOfArriving();
        overdueFromTheDayAfter();
        Due.end();
    }

    private static void waysBetweenBranches() {
        for (int from = 0; from < 4; from++) {
            for (int to = 0; to < 4; to++) {
                int way = Math.abs(from - to);
                LibraryCirculation x = Due.desk(1, 0, from);
                Due.is("hold", x.hold(0, 0, to), 0);
                Due.is("state", x.copy(0, 3), way == 0 ? 3 : 2);
                Due.is("branch", x.copy(0, 4), to);
                Due.is("from " + from + " to " + to, x.copy(0, 6), way == 0 ? 7 : way);
                LibraryCirculation y = Due.desk(1, 0, to);
                y.lend(0, 0);
                y.pass(5);
                Due.is("state", y.bringBack(0, from), way == 0 ? 0 : 2);
                Due.is("home", y.copy(0, 4), to);
                Due.is("from " + from + " home to " + to, y.copy(0, 6), way == 0 ? NONE : 5 + way);
            }
        }
    }

    private static void arrivesOnItsDay() {
        for (int way = 1; way <= 3; way++) {
            LibraryCirculation x = Due.desk(2, 0, 0, 1, 0);
            x.hold(0, 0, way);
            x.lend(1, 1);
            x.bringBack(1, way);
            for (int day = 0; day < way; day++) {
                Due.is("with a hold, before its day", x.copy(0, 3), 2);
                Due.is("without one, before its day", x.copy(1, 3), 2);
                x.pass(1);
            }
            Due.is("with a hold, on its day", x.copy(0, 3), 3);
            Due.is("without one, on its day", x.copy(1, 3), 0);
            Due.is("it expires the days later", x.copy(0, 6), way + 7);
        }
    }

    private static void daysOfALoan() {
        for (int days = 1; days <= 60; days++) {
            LibraryCirculation x = Due.desk(1, 0, 0);
            x.set(0, days);
            x.pass(3);
            Due.is("due", x.lend(0, 0), 3 + days);
            Due.is("began", x.copy(0, 7), 3);
            x.pass(1);
            Due.is("due when renewed", x.renew(0), 4 + days);
            Due.is("began, as before", x.copy(0, 7), 3);
        }
    }

    private static void lateFinePerDay() {
        int[] fines = {0, 1, 25, 1000};
        for (int fine : fines) {
            LibraryCirculation x = Due.desk(1, 0, 0);
            x.set(2, fine);
            x.set(3, 10000);
            x.lend(0, 0);
            x.pass(13);
            Due.is("a day before it is due", x.fine(0), 0);
            for (int late = 0; late <= 4; late++) {
                x.pass(1);
                Due.is("late by " + late, x.fine(0), late * fine);
                Due.is("accrued", x.accrued(0), late * fine);
            }
            x.bringBack(0, 0);
            Due.is("charged", x.owes(0), 4 * fine);
        }
    }

    private static void capOfAFine() {
        int[] caps = {0, 1, 99, 100, 101, 124, 125, 126, 10000};
        for (int cap : caps) {
            LibraryCirculation x = Due.desk(1, 0, 0);
            x.set(3, cap);
            x.lend(0, 0);
            x.pass(18);
            Due.is("100 with a cap of " + cap, x.fine(0), Math.min(cap, 100));
            x.pass(1);
            Due.is("125 with a cap of " + cap, x.fine(0), Math.min(cap, 125));
            x.pass(400);
            Due.is("much with a cap of " + cap, x.fine(0), Math.min(cap, 10000));
            x.bringBack(0, 0);
            Due.is("charged with a cap of " + cap, x.owes(0), Math.min(cap, 10000));
        }
        LibraryCirculation y = Due.desk(1, 0, 0);
        y.set(2, 1000);
        y.set(3, 10000);
        y.lend(0, 0);
        y.pass(23);
        Due.is("nine days", y.fine(0), 9000);
        y.pass(1);
        Due.is("ten days", y.fine(0), 10000);
        y.pass(1);
        Due.is("eleven days", y.fine(0), 10000);
        for (int i = 0; i < 500; i++) {
            y.pass(400);
        }
        Due.is("as many days as calls can pass", y.fine(0), 10000);
    }

    private static void recallByDaysSinceTheBeginning() {
        int[] due = {7, 7, 7, 7, 7, 8, 9, 10, 11, 12, 13, 14, 14, 14, 14, 14};
        for (int day = 0; day < due.length; day++) {
            LibraryCirculation x = Due.desk(2, 0, 0);
            x.lend(0, 0);
            if (day > 0) x.pass(day);
            Due.is("hold", x.hold(1, 0, 0), 1);
            Due.is("recalled on day " + day, x.copy(0, 6), due[day]);
            Due.is("recalled", x.copy(0, 9), 1);
            Due.is("its beginning stays", x.copy(0, 7), 0);
            Due.is("its renewals stay", x.copy(0, 8), 0);
        }
    }

    private static void recallByTheDayItWasDue() {
        for (int days = 1; days <= 10; days++) {
            LibraryCirculation x = Due.desk(2, 0, 0);
            x.pass(5);
            x.set(0, days);
            x.lend(0, 0);
            x.hold(1, 0, 0);
            Due.is("a loan of " + days + " days", x.copy(0, 6), 5 + Math.min(days, 7));
            Due.is("recalled", x.copy(0, 9), 1);
        }
    }

    private static void recallOfALoanThatIsLate() {
        for (int day = 13; day <= 16; day++) {
            LibraryCirculation x = Due.desk(3, 0, 0, 0, 0);
            x.lend(0, 0);
            x.pass(1);
            x.lend(1, 1);
            x.pass(day - 1);
            x.hold(2, 0, 0);
            Due.is("the earliest, even if it is due already", x.copy(0, 9), 1);
            Due.is("due as before", x.copy(0, 6), 14);
            Due.is("not the later one", x.copy(1, 9), 0);
        }
    }

    private static void recallOfARenewedLoan() {
        LibraryCirculation x = Due.desk(4, 0, 0, 0, 0);
        x.lend(0, 0);
        x.pass(1);
        x.lend(1, 1);
        x.pass(1);
        x.renew(0);
        Due.is("due later than the other", x.copy(0, 6), 16);
        x.hold(2, 0, 0);
        Due.is("began earlier", x.copy(0, 9), 1);
        Due.is("seven days after its beginning", x.copy(0, 6), 7);
        Due.is("the renewal stays", x.copy(0, 8), 1);
        Due.is("the other", x.copy(1, 9), 0);
        x.hold(3, 0, 0);
        Due.is("the other", x.copy(1, 9), 1);
        Due.is("seven days after its beginning", x.copy(1, 6), 8);
        x.cancelHold(2, 0);
        x.cancelHold(3, 0);
        Due.is("recalled still", x.copy(0, 9), 1);
        x.bringBack(0, 0);
        x.lend(0, 0);
        Due.is("a new loan was not recalled", x.copy(0, 9), 0);
    }

    private static void recallWhenThereIsNone() {
        LibraryCirculation x = Due.desk(8, 0, 0, 1, 0, 0, 0);
        x.set(6, 0);
        x.lend(0, 0);
        x.lend(0, 1);
        x.lend(0, 2);
        x.lose(2);
        Due.is("hold", x.hold(1, 0, 0), 1);
        x.pass(1);
        Due.is("every loan was recalled", x.hold(2, 0, 0), 2);
        Due.is("due as it was", x.copy(0, 6), 7);
        Due.is("the loan of another title", x.copy(1, 9), 0);
        Due.is("the lost copy", x.copy(2, 9), 0);
        Due.is("no copy at all", x.hold(3, 5, 0), 1);
        x.claim(1);
        Due.is("a claimed copy alone", x.hold(4, 1, 0), 1);
        Due.is("it is not recalled", x.copy(1, 9), 0);
        Due.is("nor is its day another", x.copy(1, 6), 1);
        x.addCopy(2, 3);
        x.hold(5, 2, 0);
        Due.is("a copy on the way alone", x.hold(6, 2, 0), 1);
        Due.is("it goes on", x.copy(3, 6), 4);
        Due.is("it is no loan", x.copy(3, 9), NONE);
    }

    private static void noRecallWhenACopyIsOnAShelf() {
        LibraryCirculation x = Due.desk(3, 0, 0, 0, 3);
        x.lend(0, 0);
        Due.is("hold", x.hold(1, 0, 0), 0);
        Due.is("the copy on the shelf", x.holdAt(0, 0, 2), 1);
        Due.is("no recall", x.copy(0, 9), 0);
        Due.is("due as before", x.copy(0, 6), 14);
        Due.is("hold, with no copy on a shelf", x.hold(2, 0, 0), 1);
        Due.is("recall", x.copy(0, 9), 1);
    }

    private static void nearestCopy() {
        for (int branch = 0; branch < 4; branch++) {
            LibraryCirculation x = Due.desk(4, 0, 3, 0, 2, 0, 1, 0, 0);
            x.hold(0, 0, branch);
            Due.is("the copy at branch " + branch, x.holdAt(0, 0, 2), 3 - branch);
            Due.is("on the hold shelf", x.copy(3 - branch, 3), 3);
        }
        LibraryCirculation y = Due.desk(4, 0, 0, 0, 2, 0, 2, 0, 0);
        int[] want = {0, 1, 2, 3};
        for (int patron = 0; patron < 4; patron++) {
            y.hold(patron, 0, 1);
            Due.is("a day away on either side: the lowest", y.holdAt(0, patron, 2), want[patron]);
        }
        LibraryCirculation z = Due.desk(2, 0, 3, 0, 0);
        z.hold(0, 0, 2);
        Due.is("one day away, not two", z.holdAt(0, 0, 2), 0);
        z.hold(1, 0, 2);
        Due.is("then the other", z.holdAt(0, 1, 2), 1);
        LibraryCirculation home = Due.desk(2, 0, 0, 0, 1);
        home.setFloating(0, true);
        home.lend(0, 0);
        home.bringBack(0, 3);
        home.hold(1, 0, 3);
        Due.is("by where it is, not by its home", home.holdAt(0, 0, 2), 0);
    }

    private static void nearestIsNotOnAHoldShelf() {
        LibraryCirculation x = Due.desk(3, 0, 0, 0, 3);
        x.hold(0, 0, 0);
        Due.is("on the hold shelf", x.copy(0, 3), 3);
        x.hold(1, 0, 0);
        Due.is("its copy stays", x.holdAt(0, 0, 2), 0);
        Due.is("the far one on the shelf", x.holdAt(0, 1, 2), 1);
        Due.is("none is left", x.hold(2, 0, 0), 1);
        Due.is("none is assigned", x.holdAt(0, 2, 2), NONE);
    }

    private static void expiryByDaysOnAHoldShelf() {
        int[] shelfDays = {0, 1, 2, 29, 30};
        for (int days : shelfDays) {
            LibraryCirculation x = Due.desk(1, 0, 0);
            x.pass(2);
            x.set(5, days);
            x.hold(0, 0, 0);
            Due.is("expires", x.copy(0, 6), 2 + days);
            if (days > 0) x.pass(days);
            Due.is("on the day on which it expires", x.copy(0, 3), 3);
            Due.is("its hold", x.holdCount(0), 1);
            Due.is("can be lent", x.reason(0, 0, 0), 0);
            x.pass(1);
            Due.is("on the day after", x.copy(0, 3), 0);
            Due.is("its hold is removed", x.holdCount(0), 0);
            Due.is("no hold of the patron", x.patron(0, 1), 0);
            Due.is("holder", x.copy(0, 5), NONE);
        }
    }

    private static void expiredCopyGoesToTheNextHold() {
        LibraryCirculation x = Due.desk(3, 0, 0);
        x.set(5, 1);
        x.hold(0, 0, 0);
        x.hold(1, 0, 3);
        x.hold(2, 0, 3);
        x.pass(2);
        Due.is("on the way to the next", x.copy(0, 4), 3);
        Due.is("for the next", x.copy(0, 5), 1);
        Due.is("arrives", x.copy(0, 6), 5);
        Due.is("the first is removed", x.holdCount(0), 2);
        Due.is("the others move up", x.place(1, 0), 0);
        x.pass(3);
        Due.is("there", x.copy(0, 3), 3);
        Due.is("expires", x.copy(0, 6), 6);
        x.pass(1);
        Due.is("there still", x.copy(0, 5), 1);
        x.pass(1);
        Due.is("for the last", x.copy(0, 5), 2);
        Due.is("expires", x.copy(0, 6), 8);
    }

    private static void arrivalOnTheHoldShelfOfToday() {
        LibraryCirculation x = Due.desk(1, 0, 0);
        x.set(5, 0);
        x.hold(0, 0, 1);
        x.pass(1);
        Due.is("arrived", x.copy(0, 3), 3);
        Due.is("expires on the day of its arrival", x.copy(0, 6), 1);
        Due.is("and can be lent on it", x.reason(0, 0, 0), 0);
        x.pass(1);
        Due.is("expired, and goes home", x.copy(0, 4), 0);
        Due.is("on the way", x.copy(0, 3), 2);
        Due.is("arrives", x.copy(0, 6), 3);
    }

    private static void claimEndsByDays() {
        int[] claimDays = {1, 2, 60, 364, 365};
        for (int days : claimDays) {
            LibraryCirculation x = Due.desk(1, 0, 0);
            x.lend(0, 0);
            x.pass(16);
            x.set(7, days);
            x.claim(0);
            Due.is("the day of the claim", x.copy(0, 6), 16);
            if (days > 1) x.pass(days - 1);
            Due.is("claimed on the day before", x.copy(0, 3), 4);
            Due.is("nothing is charged", x.ledgerSize(), 0);
            x.pass(1);
            Due.is("lost on the day", x.copy(0, 3), 5);
            Due.is("the price is charged", x.owes(0), 3000);
            Due.is("on that day", x.ledger(0, 4), 16 + days);
            Due.is("the fine of the claim is noted", x.fine(0), 50);
        }
    }

    private static void claimEndsWhenTheSettingIsLowered() {
        for (int days = 1; days <= 8; days++) {
            LibraryCirculation x = Due.desk(1, 0, 0);
            x.lend(0, 0);
            x.claim(0);
            x.pass(4);
            x.set(7, days);
            Due.is("not when it is set", x.copy(0, 3), 4);
            x.pass(1);
            Due.is("on the day that begins then, with " + days, x.copy(0, 3), days <= 5 ? 5 : 4);
        }
        LibraryCirculation y = Due.desk(1, 0, 0);
        y.lend(0, 0);
        y.claim(0);
        y.pass(59);
        y.set(7, 100);
        y.pass(40);
        Due.is("as it is set on that day", y.copy(0, 3), 4);
        y.pass(1);
        Due.is("and not before", y.copy(0, 3), 5);
        Due.is("day", y.ledger(0, 4), 100);
    }

    private static void claimEndsBeforeItIsBroughtBack() {
        LibraryCirculation x = Due.desk(1, 0, 0, 1, 0);
        x.lend(0, 0);
        x.lend(0, 1);
        x.claim(0);
        x.claim(1);
        x.pass(59);
        Due.is("bringBack on the last day of the claim", x.bringBack(0, 0), 0);
        Due.is("one claim less", x.patron(0, 2), 1);
        x.pass(1);
        Due.is("it does not end again", x.copy(0, 3), 0);
        Due.is("the other is lost", x.copy(1, 3), 5);
        x.bringBack(1, 0);
        Due.is("its claim stays", x.patron(0, 2), 1);
        Due.is("owes nothing", x.owes(0), 0);
    }

    private static void claimMadeTodayWithOneDay() {
        LibraryCirculation x = Due.desk(1, 0, 0);
        x.set(7, 1);
        x.lend(0, 0);
        x.claim(0);
        Due.is("claimed today", x.copy(0, 3), 4);
        x.pass(1);
        Due.is("lost tomorrow", x.copy(0, 3), 5);
    }

    private static void lostFromLoanAndFromClaim() {
        LibraryCirculation x = Due.desk(1, 0, 0, 1, 0);
        x.lend(0, 0);
        x.lend(0, 1);
        x.pass(16);
        x.claim(1);
        x.pass(2);
        x.set(6, 0);
        x.lose(0);
        x.lose(1);
        Due.is("the fine of the day it was lost", x.fine(0), 100);
        Due.is("the fine of the day it was claimed", x.fine(1), 50);
        x.set(2, 1000);
        x.set(3, 10000);
        x.pass(5);
        Due.is("as it was noted", x.fine(0), 100);
        Due.is("as it was noted", x.fine(1), 50);
        Due.is("no late fine is accrued", x.accrued(0), 0);
        x.bringBack(1, 0);
        Due.is("charged", x.owes(0), 50);
        x.bringBack(0, 0);
        Due.is("charged", x.owes(0), 150);
    }

    private static void lostPriceIsThatOfTheDay() {
        int[] prices = {0, 1, 99999, 100000};
        for (int price : prices) {
            LibraryCirculation x = Due.desk(1, 0, 0);
            x.lend(0, 0);
            x.set(6, price);
            Due.is("lose", x.lose(0), price);
            x.set(6, 5);
            x.bringBack(0, 0);
            Due.is("the price that was charged", x.owes(0), 0);
            Due.is("given back", x.patron(0, 5), price);
            Due.is("entries", x.ledgerSize(), price == 0 ? 0 : 2);
        }
    }

    private static void lentAgainAfterItWasLost() {
        LibraryCirculation x = Due.desk(2, 0, 0);
        x.lend(0, 0);
        x.pass(16);
        x.lose(0);
        x.bringBack(0, 0);
        Due.is("entries", x.ledgerSize(), 3);
        x.lend(1, 0);
        Due.is("the fine that was noted is of the past", x.fine(0), 0);
        Due.is("nothing is accrued", x.accrued(1), 0);
        x.pass(15);
        x.bringBack(0, 0);
        Due.is("its fine alone", x.owes(1), 25);
        Due.is("the price is not given back again", x.patron(1, 5), 0);
        Due.is("entries", x.ledgerSize(), 4);
        x.lend(1, 0);
        x.claim(0);
        Due.is("the fine of this claim", x.fine(0), 0);
        x.bringBack(0, 0);
        Due.is("nothing for a claimed copy", x.ledgerSize(), 4);
        x.lend(1, 0);
        x.set(6, 40);
        Due.is("lost anew, for the price of now", x.lose(0), 65);
        x.bringBack(0, 0);
        Due.is("which is given back", x.owes(1), 25);
        Due.is("the first patron", x.owes(0), 50);
    }

    private static void lentAgainAfterItWasClaimed() {
        LibraryCirculation x = Due.desk(1, 0, 0);
        x.lend(0, 0);
        x.pass(20);
        x.claim(0);
        x.bringBack(0, 0);
        x.lend(0, 0);
        Due.is("no claim", x.patron(0, 2), 0);
        Due.is("no fine", x.fine(0), 0);
        x.bringBack(0, 0);
        Due.is("no claim less", x.patron(0, 2), 0);
        x.lend(0, 0);
        x.pass(15);
        x.lose(0);
        Due.is("the fine of the day it was lost", x.fine(0), 25);
    }

    private static void orderOfArrivals() {
        LibraryCirculation x = Due.desk(4, 0, 0, 0, 0);
        x.lend(0, 0);
        x.lend(1, 1);
        x.bringBack(1, 2);
        x.bringBack(0, 2);
        x.hold(2, 0, 3);
        x.hold(3, 0, 0);
        x.pass(2);
        Due.is("the lower copy has the first hold", x.holdAt(0, 0, 2), 0);
        Due.is("the higher copy has the second", x.holdAt(0, 1, 2), 1);
        Due.is("the first is on the way", x.copy(0, 6), 5);
        Due.is("the second is there", x.copy(1, 3), 3);
    }

    private static void orderOfExpiries() {
        LibraryCirculation x = Due.desk(4, 0, 0, 0, 0);
        x.hold(0, 0, 0);
        x.hold(1, 0, 0);
        x.hold(2, 0, 1);
        x.hold(3, 0, 2);
        x.pass(8);
        Due.is("both are removed", x.holdCount(0), 2);
        Due.is("the lower copy has the next", x.copy(0, 5), 2);
        Due.is("the higher copy has the last", x.copy(1, 5), 3);
        Due.is("arrives", x.copy(0, 6), 9);
        Due.is("arrives", x.copy(1, 6), 10);
    }

    private static void arrivalsBeforeExpiries() {
        LibraryCirculation x = Due.desk(4, 0, 0, 0, 0);
        x.set(5, 1);
        x.hold(0, 0, 0);
        x.lend(1, 1);
        x.bringBack(1, 2);
        x.hold(2, 0, 0);
        Due.is("copy 1 arrives on the day copy 0 becomes free", x.copy(1, 6), 2);
        x.pass(2);
        Due.is("the copy that arrived comes first", x.holdAt(0, 0, 2), 1);
        Due.is("on the hold shelf", x.copy(1, 3), 3);
        Due.is("the copy that expired is on the shelf", x.copy(0, 3), 0);
    }

    private static void expiriesBeforeClaims() {
        LibraryCirculation x = Due.desk(2, 0, 0, 1, 0);
        x.set(5, 0);
        x.set(7, 1);
        x.lend(0, 0);
        x.claim(0);
        x.hold(1, 1, 0);
        x.pass(1);
        Due.is("the claim ended", x.copy(0, 3), 5);
        Due.is("the hold expired", x.holdCount(1), 0);
        Due.is("owes", x.owes(0), 3000);
    }

    /** Each day begins by itself, however many pass in one call. */
    private static void daysOneByOneOrTogether() {
        int[] lengths = {1, 2, 3, 5, 8, 40, 120};
        for (int length : lengths) {
            LibraryCirculation together = busy();
            LibraryCirculation oneByOne = busy();
            Due.is("pass(" + length + ")", together.pass(length), 20 + length);
            for (int day = 0; day < length; day++) {
                oneByOne.pass(1);
            }
            Seen.same("pass(" + length + ") and as many pass(1)", Seen.state(together), Seen.state(oneByOne));
        }
    }

    private static LibraryCirculation busy() {
        LibraryCirculation x = Due.desk(6, 0, 0, 0, 3, 1, 1, 1, 2, 2, 0, 3, 0);
        x.set(5, 2);
        x.lend(0, 4);
        x.lend(0, 5);
        x.pass(20);
        x.hold(1, 0, 2);
        x.hold(2, 0, 2);
        x.hold(3, 0, 0);
        x.hold(1, 1, 0);
        x.hold(2, 1, 3);
        x.hold(4, 1, 0);
        x.claim(4);
        x.claim(5);
        return x;
    }

    private static void freeAtEachBranch() {
        for (int branch = 0; branch < 4; branch++) {
            for (int home = 0; home < 4; home++) {
                LibraryCirculation x = Due.desk(1, 0, home, 1, home);
                x.setFloating(1, true);
                x.lend(0, 0);
                x.lend(0, 1);
                Due.is("one that goes home", x.bringBack(0, branch), branch == home ? 0 : 2);
                Due.is("goes home", x.copy(0, 4), home);
                Due.is("one that floats", x.bringBack(1, branch), 0);
                Due.is("stays", x.copy(1, 4), branch);
                Due.is("its home", x.copy(1, 1), home);
            }
        }
    }

    private static void floatingFromNowOn() {
        LibraryCirculation x = Due.desk(1, 0, 0);
        x.lend(0, 0);
        x.bringBack(0, 3);
        Due.is("goes home", x.copy(0, 4), 0);
        x.setFloating(0, true);
        Due.is("it goes on", x.copy(0, 6), 3);
        x.pass(3);
        Due.is("at home", x.copy(0, 3), 0);
        x.lend(0, 0);
        x.bringBack(0, 3);
        Due.is("stays", x.copy(0, 3), 0);
        x.setFloating(0, false);
        x.pass(10);
        Due.is("it stays until it becomes free again", x.copy(0, 4), 3);
        x.hold(0, 0, 3);
        x.cancelHold(0, 0);
        Due.is("then it goes home", x.copy(0, 3), 2);
        LibraryCirculation y = Due.desk(1, 0, 0);
        y.hold(0, 0, 3);
        y.cancelHold(0, 0);
        y.setFloating(0, true);
        y.pass(3);
        Due.is("floats when it arrives", y.copy(0, 3), 0);
        Due.is("where it arrived", y.copy(0, 4), 3);
    }

    private static void settingsFromNowOn() {
        LibraryCirculation x = Due.desk(2, 0, 0, 1, 0, 2, 0);
        x.lend(0, 0);
        x.hold(0, 1, 0);
        x.hold(0, 2, 2);
        x.set(0, 1);
        x.set(5, 1);
        Due.is("due as before", x.copy(0, 6), 14);
        Due.is("expires as before", x.copy(1, 6), 7);
        x.pass(2);
        Due.is("expires as set on the day it arrives", x.copy(2, 6), 3);
        x.pass(2);
        Due.is("expired", x.copy(2, 5), NONE);
        Due.is("not expired", x.copy(1, 5), 0);
        x.pass(16);
        Due.is("six days late", x.fine(0), 150);
        x.set(2, 7);
        Due.is("the fine for a day as it is set", x.fine(0), 42);
        x.set(3, 41);
        Due.is("the cap as it is set", x.fine(0), 41);
        x.claim(0);
        x.set(3, 500);
        Due.is("what was noted stays", x.fine(0), 41);
    }

    private static void freeCopyForTheFirstThatWaits() {
        LibraryCirculation x = Due.desk(5, 0, 0, 1, 0);
        x.lend(4, 0);
        x.hold(0, 1, 3);
        x.hold(0, 0, 3);
        x.hold(1, 0, 2);
        x.hold(2, 0, 1);
        Due.is("of its title alone", x.holdAt(1, 0, 2), 1);
        Due.is("bringBack, at the branch of a later hold", x.bringBack(0, 1), 2);
        Due.is("for the first", x.copy(0, 5), 0);
        Due.is("waiting", x.waiting(0), 2);
        Due.is("addCopy", x.addCopy(0, 2), 2);
        Due.is("for the second, who is the first that waits", x.copy(2, 5), 1);
        Due.is("there", x.copy(2, 3), 3);
        Due.is("waiting", x.waiting(0), 1);
        Due.is("all are in the queue", x.holdCount(0), 3);
        x.cancelHold(1, 0);
        Due.is("for the last", x.copy(2, 5), 2);
        Due.is("on the way", x.copy(2, 3), 2);
        Due.is("waiting", x.waiting(0), 0);
    }

    private static void cancelledOnTheWay() {
        LibraryCirculation x = Due.desk(3, 0, 0);
        x.hold(0, 0, 2);
        x.hold(1, 0, 2);
        x.pass(1);
        Due.is("cancelHold", x.cancelHold(0, 0), 1);
        Due.is("it goes on without a hold", x.copy(0, 5), NONE);
        Due.is("to the same branch", x.arriving(2, 0), 0);
        Due.is("and arrives on the same day", x.copy(0, 6), 2);
        Due.is("the other waits", x.waiting(0), 1);
        Due.is("a third hold", x.hold(2, 0, 2), 2);
        x.pass(1);
        Due.is("then it is for the other", x.copy(0, 5), 1);
        Due.is("on the hold shelf", x.copy(0, 3), 3);
        Due.is("expires", x.copy(0, 6), 9);
    }

    private static void loanOfAnotherCopyKeepsTheHold() {
        LibraryCirculation x = Due.desk(2, 0, 0, 0, 3, 0, 3);
        x.hold(0, 0, 0);
        Due.is("on the hold shelf", x.copy(0, 5), 0);
        Due.is("lend another copy", x.lend(0, 1), 14);
        Due.is("the hold stays", x.holdAt(0, 0, 2), 0);
        Due.is("its copy stays", x.copy(0, 3), 3);
        Due.is("a hold for another", x.hold(1, 0, 3), 0);
        Due.is("lend of the first", x.lend(0, 0), 14);
        Due.is("the hold of the other stays", x.holdCount(0), 1);
        Due.is("it moves up", x.place(1, 0), 0);
        Due.is("loans", x.patron(0, 0), 2);
    }

    private static void estimatePositions() {
        LibraryCirculation x = Due.desk(8, 0, 0, 0, 0, 0, 0);
        x.lend(0, 0);
        x.pass(4);
        x.lend(1, 1);
        x.pass(4);
        x.lend(2, 2);
        for (int patron = 3; patron < 7; patron++) {
            x.hold(patron, 0, 0);
        }
        int[] due = {11, 11, 15};
        for (int copy = 0; copy < 3; copy++) {
            Due.is("recalled and due", x.copy(copy, 6), due[copy]);
            Due.is("the hold at this position", x.estimate(3 + copy, 0), due[copy]);
        }
        Due.is("one beyond", x.estimate(6, 0), NONE);
        Due.is("no hold", x.estimate(7, 0), NONE);
        Due.is("a loan", x.estimate(0, 0), NONE);
        x.addCopy(0, 0);
        Due.is("the first has its copy", x.estimate(3, 0), NONE);
        int[] later = {11, 11, 15};
        for (int i = 0; i < 3; i++) {
            Due.is("only those that wait count before", x.estimate(4 + i, 0), later[i]);
        }
        x.cancelHold(4, 0);
        Due.is("it moves up", x.estimate(5, 0), 11);
        Due.is("it moves up", x.estimate(6, 0), 11);
    }

    private static void estimateOfThePresentDay() {
        LibraryCirculation x = Due.desk(3, 0, 0, 0, 0);
        x.lend(0, 0);
        x.pass(13);
        x.lend(1, 1);
        x.hold(2, 0, 0);
        Due.is("a day before it is due", x.estimate(2, 0), 14);
        x.pass(1);
        Due.is("on the day it is due", x.estimate(2, 0), 14);
        x.pass(1);
        Due.is("a day after it was due", x.estimate(2, 0), 15);
        x.bringBack(0, 0);
        Due.is("it has its copy", x.estimate(2, 0), NONE);
        LibraryCirculation y = Due.desk(3, 0, 0);
        y.hold(0, 0, 3);
        y.hold(1, 0, 3);
        Due.is("a copy on the way with a hold does not count", y.estimate(1, 0), NONE);
        y.cancelHold(0, 0);
        Due.is("without one it counts", y.estimate(1, 0), 3);
        y.pass(2);
        Due.is("by the day on which it arrives", y.estimate(1, 0), 3);
    }

    private static void orderOfLoans() {
        LibraryCirculation x = Due.desk(2, 0, 0, 1, 0, 2, 0, 3, 0, 4, 0);
        int[] days = {5, 4, 5, 3, 4};
        for (int copy = 0; copy < 5; copy++) {
            x.set(0, days[copy]);
            x.lend(0, copy);
        }
        int[] want = {3, 1, 4, 0, 2, NONE, NONE};
        for (int i = 0; i < want.length; i++) {
            Due.is("loanOf(0, " + i + ")", x.loanOf(0, i), want[i]);
        }
        x.set(0, 5);
        x.pass(1);
        x.renew(3);
        Due.is("renewed, the last", x.loanOf(0, 4), 3);
        Due.is("the first", x.loanOf(0, 0), 1);
    }

    private static void orderOfArriving() {
        LibraryCirculation x = Due.desk(6, 0, 0, 1, 2, 2, 0, 3, 2, 4, 1);
        int[] titles = {0, 1, 2, 3, 4};
        for (int title : titles) {
            x.hold(title, title, 3);
        }
        int[] want = {1, 3, 4, 0, 2, NONE, NONE};
        for (int i = 0; i < want.length; i++) {
            Due.is("arriving(3, " + i + ")", x.arriving(3, i), want[i]);
        }
        x.pass(1);
        int[] there = {1, 3, NONE};
        for (int i = 0; i < there.length; i++) {
            Due.is("shelf(3, " + i + ")", x.shelf(3, i), there[i]);
        }
        Due.is("arriving next", x.arriving(3, 0), 4);
    }

    private static void overdueFromTheDayAfter() {
        LibraryCirculation x = Due.desk(1, 0, 0, 1, 0);
        x.lend(0, 0);
        x.pass(1);
        x.lend(0, 1);
        int[] want = {0, 0, 1, 2, 2};
        x.pass(12);
        for (int i = 0; i < want.length; i++) {
            Due.is("day " + x.day(), x.patron(0, 3), want[i]);
            x.pass(1);
        }
    }
}
