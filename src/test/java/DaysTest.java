/** Promises 9 and 10: the present day, and what happens on the days that begin. */
public final class DaysTest {
    public static void main(String[] args) {
        range();
        arrivalWithAHold();
        arrivalWithoutAHold();
        arrivalForAHoldMadeMeanwhile();
        expiry();
        expiryOnZeroDays();
        expiredCopyGoesHome();
        arrivalsBeforeExpiriesInAscendingOrder();
        claimsEnd();
        claimsEndBySettingOfThatDay();
        claimsEndWithThePriceOfThatDay();
        Due.end();
    }

    private static void range() {
        LibraryCirculation x = new LibraryCirculation();
        int[] wrong = {0, -1, 401, Integer.MIN_VALUE, Integer.MAX_VALUE};
        for (int days : wrong) {
            Due.is("pass(" + days + ")", x.pass(days), -1);
        }
        Due.is("day", x.day(), 0);
        Due.is("pass(1)", x.pass(1), 1);
        Due.is("pass(400)", x.pass(400), 401);
        Due.is("day", x.day(), 401);
    }

    private static void arrivalWithAHold() {
        LibraryCirculation x = Due.desk(1, 0, 0);
        x.hold(0, 0, 3);
        x.pass(2);
        Due.is("on the way", x.copy(0, 3), 2);
        x.set(5, 4);
        x.pass(1);
        Due.is("on the hold shelf", x.copy(0, 3), 3);
        Due.is("of the branch", x.copy(0, 4), 3);
        Due.is("expires", x.copy(0, 6), 7);
        x.set(5, 30);
        Due.is("expires as before", x.copy(0, 6), 7);
    }

    private static void arrivalWithoutAHold() {
        LibraryCirculation x = Due.desk(1, 0, 0);
        x.lend(0, 0);
        Due.is("on the way home", x.bringBack(0, 3), 2);
        Due.is("arrives", x.copy(0, 6), 3);
        Due.is("holder", x.copy(0, 5), -2);
        x.pass(2);
        Due.is("on the way home", x.copy(0, 3), 2);
        x.pass(1);
        Due.is("at home", x.copy(0, 3), 0);
        Due.is("at home", x.copy(0, 4), 0);
    }

    private static void arrivalForAHoldMadeMeanwhile() {
        LibraryCirculation x = Due.desk(3, 0, 0);
        x.lend(0, 0);
        x.bringBack(0, 3);
        Due.is("hold", x.hold(1, 0, 2), 1);
        Due.is("the copy goes on", x.copy(0, 4), 0);
        Due.is("the hold waits", x.holdAt(0, 0, 2), -2);
        x.pass(3);
        Due.is("sent to the hold", x.copy(0, 3), 2);
        Due.is("to its branch", x.copy(0, 4), 2);
        Due.is("arrives", x.copy(0, 6), 5);
        Due.is("the hold has it", x.holdAt(0, 0, 2), 0);
        x.pass(2);
        Due.is("on the hold shelf", x.copy(0, 3), 3);
        x.lend(1, 0);
        x.bringBack(0, 1);
        x.hold(2, 0, 0);
        x.pass(1);
        Due.is("arrives at the branch of the hold", x.copy(0, 3), 3);
        Due.is("expires", x.copy(0, 6), 13);
    }

    private static void expiry() {
        LibraryCirculation x = Due.desk(2, 0, 1);
        x.hold(0, 0, 1);
        x.hold(1, 0, 1);
        Due.is("expires", x.copy(0, 6), 7);
        x.pass(7);
        Due.is("holder on the day of the expiry", x.copy(0, 5), 0);
        x.pass(1);
        Due.is("holder on the day after", x.copy(0, 5), 1);
        Due.is("on the hold shelf", x.copy(0, 3), 3);
        Due.is("expires anew", x.copy(0, 6), 15);
        Due.is("holdCount", x.holdCount(0), 1);
        Due.is("the first hold is gone", x.place(0, 0), -2);
        x.pass(8);
        Due.is("on the shelf", x.copy(0, 3), 0);
        Due.is("holdCount", x.holdCount(0), 0);
    }

    private static void expiryOnZeroDays() {
        LibraryCirculation x = Due.desk(3, 0, 1);
        x.set(5, 0);
        x.hold(0, 0, 1);
        x.hold(1, 0, 1);
        x.hold(2, 0, 1);
        Due.is("expires today", x.copy(0, 6), 0);
        x.pass(1);
        Due.is("the second, for one day", x.copy(0, 5), 1);
        Due.is("expires on the day that began", x.copy(0, 6), 1);
        x.pass(1);
        Due.is("the third", x.copy(0, 5), 2);
        x.pass(1);
        Due.is("nobody", x.copy(0, 5), -2);
    }

    private static void expiredCopyGoesHome() {
        LibraryCirculation x = Due.desk(1, 0, 0, 1, 0);
        x.setFloating(1, true);
        x.hold(0, 0, 2);
        x.hold(0, 1, 2);
        x.pass(2);
        x.pass(8);
        Due.is("day", x.day(), 10);
        Due.is("on the way home", x.copy(0, 3), 2);
        Due.is("arrives", x.copy(0, 6), 12);
        Due.is("the one that floats stays", x.copy(1, 3), 0);
        Due.is("where it was", x.copy(1, 4), 2);
    }

    private static void arrivalsBeforeExpiriesInAscendingOrder() {
        LibraryCirculation x = Due.desk(4, 0, 0, 0, 0);
        x.set(5, 2);
        x.hold(0, 0, 0);
        Due.is("the lower one", x.holdAt(0, 0, 2), 0);
        x.lend(3, 1);
        x.hold(1, 0, 0);
        x.hold(2, 0, 0);
        x.bringBack(1, 3);
        Due.is("the other copy is on the way", x.holdAt(0, 1, 2), 1);
        x.pass(3);
        Due.is("the copy that arrived has its hold", x.copy(1, 5), 1);
        Due.is("the copy that expired has the next", x.copy(0, 5), 2);
        LibraryCirculation y = Due.desk(3, 0, 0, 0, 1);
        y.set(5, 2);
        y.hold(0, 0, 0);
        y.lend(1, 1);
        y.bringBack(1, 3);
        y.hold(2, 0, 0);
        Due.is("arrives", y.copy(1, 6), 2);
        y.pass(2);
        Due.is("the copy that arrived is for the hold", y.copy(1, 5), 2);
        y.pass(1);
        Due.is("the copy that expired is on the shelf", y.copy(0, 3), 0);
    }

    private static void claimsEnd() {
        LibraryCirculation x = Due.desk(1, 0, 0);
        x.lend(0, 0);
        x.pass(20);
        Due.is("claim", x.claim(0), 150);
        x.pass(59);
        Due.is("claimed", x.copy(0, 3), 4);
        Due.is("owes", x.owes(0), 0);
        x.pass(1);
        Due.is("lost", x.copy(0, 3), 5);
        Due.is("the fine that was noted", x.fine(0), 150);
        Due.is("owes the price alone", x.owes(0), 3000);
        Due.is("the number of claims stays", x.patron(0, 2), 1);
        Due.is("ledger day", x.ledger(0, 4), 80);
        Due.is("ledger kind", x.ledger(0, 0), 1);
        x.pass(400);
        Due.is("charged once", x.owes(0), 3000);
    }

    private static void claimsEndBySettingOfThatDay() {
        LibraryCirculation x = Due.desk(1, 0, 0, 1, 0);
        x.lend(0, 0);
        x.lend(0, 1);
        x.claim(0);
        x.pass(10);
        x.claim(1);
        x.set(7, 5);
        Due.is("claimed until a day begins", x.copy(0, 3), 4);
        x.pass(1);
        Due.is("lost", x.copy(0, 3), 5);
        Due.is("claimed", x.copy(1, 3), 4);
        x.set(7, 365);
        x.pass(363);
        Due.is("claimed", x.copy(1, 3), 4);
        x.pass(1);
        Due.is("lost", x.copy(1, 3), 5);
        Due.is("day", x.day(), 375);
    }

    private static void claimsEndWithThePriceOfThatDay() {
        LibraryCirculation x = Due.desk(2, 0, 0, 1, 0);
        x.lend(1, 1);
        x.lend(0, 0);
        x.claim(1);
        x.claim(0);
        x.set(6, 700);
        x.pass(60);
        Due.is("owes", x.owes(0), 700);
        Due.is("ascending order", x.ledger(0, 3), 0);
        Due.is("ascending order", x.ledger(1, 3), 1);
        x.set(6, 900);
        x.bringBack(0, 0);
        Due.is("given back as charged", x.owes(0), 0);
    }
}
