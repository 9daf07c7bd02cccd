import java.util.function.Consumer;
import java.util.function.ToIntFunction;

/** Each reason of lend, renew, claim, lose and hold: alone, together with each later one, and at its edge. */
public final class ReasonsTest {
    private static final int LEND = 0;
    private static final int RENEW = 1;
    private static final int CLAIM = 2;
    private static final int LOSE = 3;
    private static final int HOLD = 4;

    public static void main(String[] args) {
        lendInTheirOrder();
        renewInTheirOrder();
        renewHalvesOfTheThirdReason();
        claimInTheirOrder();
        loseByState();
        holdInTheirOrder();
        statesToLendFrom();
        statesToRenewAndClaim();
        owedAtTheLimit();
        limitAtItsEnds();
        loansAtTheGreatestNumber();
        renewedTwice();
        dueLaterByADay();
        twoClaims();
        threeHolds();
        Due.end();
    }

    /** The call and reason() agree on the reason, 0 for none; what is refused changes nothing, and reason() neither. */
    private static void reason(String when, Consumer<LibraryCirculation> before, int kind, int a, int b, int want) {
        Seen.changesNothing(when + ": reason(" + kind + ", " + a + ", " + b + ")", before, x -> x.reason(kind, a, b), want);
        ToIntFunction<LibraryCirculation> call = x -> call(x, kind, a, b);
        if (want != 0) {
            Seen.changesNothing(when + ": the call", before, call, -100 - want);
            return;
        }
        LibraryCirculation x = new LibraryCirculation();
        before.accept(x);
        Due.holds(when + ": the call is not refused", call.applyAsInt(x) >= 0);
    }

    private static int call(LibraryCirculation x, int kind, int a, int b) {
        switch (kind) {
            case LEND: return x.lend(a, b);
            case RENEW: return x.renew(a);
            case CLAIM: return x.claim(a);
            case LOSE: return x.lose(a);
            default: return x.hold(a, b, 0);
        }
    }

    private static int first(boolean... applies) {
        for (int i = 0; i < applies.length; i++) {
            if (applies[i]) return i + 1;
        }
        return 0;
    }

    private static void desk(LibraryCirculation x, int patrons, int... titles) {
        for (int title : titles) {
            x.addCopy(title, 0);
        }
        for (int patron = 0; patron < patrons; patron++) {
            x.addPatron();
        }
    }

    private static void lendInTheirOrder() {
        for (int set = 0; set < 8; set++) {
            boolean owes = (set & 1) != 0;
            boolean many = (set & 2) != 0;
            boolean away = (set & 4) != 0;
            reason("lend, set " + set, x -> {
                desk(x, 2, 0, 1, 2);
                x.set(6, 1000);
                x.lend(0, 0);
                if (away) x.lend(1, 1);
                if (owes) x.lend(0, 2);
                if (owes) x.lose(2);
                if (many) x.set(1, 1);
            }, LEND, 0, 1, first(owes, many, away));
        }
    }

    private static void renewInTheirOrder() {
        for (int set = 0; set < 32; set++) {
            boolean claimed = (set & 1) != 0;
            boolean twice = (set & 2) != 0;
            boolean recalled = (set & 4) != 0;
            boolean owes = (set & 8) != 0;
            boolean notLater = (set & 16) != 0;
            reason("renew, set " + set, x -> {
                desk(x, 2, 0, 1);
                x.set(6, 1000);
                x.lend(0, 0);
                x.pass(1);
                if (twice) x.renew(0);
                x.pass(1);
                if (twice) x.renew(0);
                if (recalled) x.hold(1, 0, 0);
                if (owes) x.lend(0, 1);
                if (owes) x.lose(1);
                x.set(0, notLater ? 1 : 60);
                if (claimed) x.claim(0);
            }, RENEW, 0, 0, first(claimed, twice, recalled, owes, notLater));
        }
    }

    private static void renewHalvesOfTheThirdReason() {
        Consumer<LibraryCirculation> both = x -> {
            desk(x, 3, 0, 0);
            x.lend(0, 0);
            x.lend(1, 1);
            x.pass(1);
            x.hold(2, 0, 3);
        };
        reason("recalled, and a hold is waiting", both, RENEW, 0, 0, 3);
        reason("not recalled, but a hold is waiting", both, RENEW, 1, 0, 3);
        Consumer<LibraryCirculation> cancelled = both.andThen(x -> x.cancelHold(2, 0));
        reason("recalled, but no hold is waiting", cancelled, RENEW, 0, 0, 3);
        reason("neither", cancelled, RENEW, 1, 0, 0);
        Consumer<LibraryCirculation> assigned = both.andThen(x -> x.addCopy(0, 0));
        reason("recalled, and the hold has a copy on the way", assigned, RENEW, 0, 0, 3);
        reason("not recalled, and the hold has a copy on the way", assigned, RENEW, 1, 0, 0);
        Consumer<LibraryCirculation> other = x -> {
            desk(x, 2, 0, 1);
            x.lend(0, 0);
            x.pass(1);
            x.hold(1, 2, 0);
        };
        reason("a hold of another title is waiting", other, RENEW, 0, 0, 0);
    }

    private static void claimInTheirOrder() {
        for (int set = 0; set < 4; set++) {
            boolean claimed = (set & 1) != 0;
            boolean two = (set & 2) != 0;
            reason("claim, set " + set, x -> {
                desk(x, 1, 0, 1, 2);
                x.lend(0, 0);
                x.lend(0, 1);
                x.lend(0, 2);
                if (claimed) x.claim(0);
                if (two) x.claim(1);
                if (two && !claimed) x.claim(2);
            }, CLAIM, 0, 0, first(claimed, two));
        }
    }

    /** Copy 0 is in this state afterwards, with patron 0 or for him. */
    private static Consumer<LibraryCirculation> inState(int state) {
        return x -> {
            desk(x, 2, 0, 0);
            if (state == 1 || state > 3) x.lend(0, 0);
            if (state == 2) x.hold(0, 0, 2);
            if (state == 3) x.hold(0, 0, 0);
            if (state == 4) x.claim(0);
            if (state == 5) x.set(6, 0);
            if (state == 5) x.lose(0);
            Due.is("the state of the copy", x.copy(0, 3), state);
        };
    }

    private static void loseByState() {
        for (int state = 0; state < 6; state++) {
            reason("lose in state " + state, inState(state), LOSE, 0, 0, state == 1 || state == 4 ? 0 : 1);
        }
    }

    private static void statesToLendFrom() {
        for (int state = 0; state < 6; state++) {
            reason("lend to its patron in state " + state, inState(state), LEND, 0, 0, state == 0 || state == 3 ? 0 : 3);
            reason("lend to the other in state " + state, inState(state), LEND, 1, 0, state == 0 ? 0 : 3);
        }
        Consumer<LibraryCirculation> second = inState(3).andThen(x -> x.hold(1, 0, 0));
        reason("a hold shelf for the patron, of another copy", second, LEND, 1, 0, 3);
        reason("a hold shelf for the patron, of this copy", second, LEND, 1, 1, 0);
        Consumer<LibraryCirculation> behind = second.andThen(x -> {
            x.lend(1, 1);
            x.hold(1, 1, 0);
        });
        reason("a hold shelf for the first of the queue", behind, LEND, 1, 0, 3);
    }

    private static void statesToRenewAndClaim() {
        for (int state = 0; state < 6; state++) {
            Consumer<LibraryCirculation> dayLater = inState(state).andThen(x -> x.pass(1));
            // The copy on the way goes on; nothing but its state is asked.
            reason("renew in state " + state, dayLater, RENEW, 0, 0, state == 1 ? 0 : 1);
            reason("claim in state " + state, dayLater, CLAIM, 0, 0, state == 1 ? 0 : 1);
        }
    }

    private static void holdInTheirOrder() {
        for (int set = 0; set < 16; set++) {
            boolean owes = (set & 1) != 0;
            boolean three = (set & 2) != 0;
            boolean same = (set & 4) != 0;
            boolean loan = (set & 8) != 0;
            reason("hold, set " + set, x -> {
                desk(x, 1, 0, 0, 5);
                x.set(6, 1000);
                if (same) x.hold(0, 0, 3);
                if (loan) x.lend(0, 1);
                for (int title = 1; title < 4; title++) {
                    if (three) x.hold(0, title, 0);
                }
                if (owes) x.lend(0, 2);
                if (owes) x.lose(2);
            }, HOLD, 0, 0, first(owes, three, same, loan));
        }
    }

    /** A patron with a loan of title 0 and a copy of title 1 on the shelf, who owes this much. */
    private static Consumer<LibraryCirculation> owing(int amount, int limit) {
        return x -> {
            desk(x, 1, 0, 1, 2);
            x.set(4, 100000);
            x.lend(0, 0);
            x.lend(0, 2);
            x.set(6, amount);
            x.lose(2);
            x.pass(1);
            x.set(4, limit);
            Due.is("what is owed", x.owes(0), amount);
        };
    }

    private static void owedAtTheLimit() {
        int[] owed = {0, 998, 999, 1000, 1001, 100000};
        for (int amount : owed) {
            boolean refused = amount >= 1000;
            reason("owes " + amount, owing(amount, 1000), LEND, 0, 1, refused ? 1 : 0);
            reason("owes " + amount, owing(amount, 1000), HOLD, 0, 1, refused ? 1 : 0);
            reason("owes " + amount, owing(amount, 1000), RENEW, 0, 0, refused ? 4 : 0);
            reason("owes " + amount, owing(amount, 1000), CLAIM, 0, 0, 0);
            reason("owes " + amount, owing(amount, 1000), LOSE, 0, 0, 0);
        }
    }

    private static void limitAtItsEnds() {
        reason("owes nothing of 1", owing(0, 1), LEND, 0, 1, 0);
        reason("owes 1 of 1", owing(1, 1), LEND, 0, 1, 1);
        reason("owes 1 of 1", owing(1, 1), HOLD, 0, 1, 1);
        reason("owes 1 of 1", owing(1, 1), RENEW, 0, 0, 4);
        reason("owes 99999 of 100000", owing(99999, 100000), LEND, 0, 1, 0);
        reason("owes 100000 of 100000", owing(100000, 100000), LEND, 0, 1, 1);
        Consumer<LibraryCirculation> below = owing(5, 1).andThen(x -> {
            x.pay(0, 5);
            x.bringBack(2, 0);
            Due.is("owes less than nothing", x.owes(0), -5);
        });
        reason("owes less than nothing", below, LEND, 0, 1, 0);
        reason("owes less than nothing", below, HOLD, 0, 1, 0);
        reason("owes less than nothing", below, RENEW, 0, 0, 0);
        Consumer<LibraryCirculation> accrued = x -> {
            desk(x, 1, 0, 1);
            x.set(4, 1);
            x.lend(0, 0);
            x.pass(20);
            Due.is("the fine of the loan", x.accrued(0), 150);
        };
        reason("a fine that is not charged is not owed", accrued, LEND, 0, 1, 0);
    }

    private static void loansAtTheGreatestNumber() {
        for (int allowed = 1; allowed <= 20; allowed++) {
            int most = allowed;
            LibraryCirculation x = new LibraryCirculation();
            desk(x, 2);
            for (int copy = 0; copy < 20; copy++) {
                x.addCopy(copy % 6, 0);
            }
            x.set(1, most);
            for (int copy = 0; copy < most; copy++) {
                Due.is(copy + " loans of " + most, x.lend(0, copy), 14);
            }
            Due.is("as many as allowed, before the copy is looked at", x.lend(0, 0), -102);
            if (most == 20) continue;
            Due.is("as many as allowed", x.lend(0, most), -102);
            x.set(1, most == 1 ? 1 : most - 1);
            Due.is("more than allowed", x.lend(0, most), -102);
            Due.is("another patron", x.lend(1, most), 14);
            x.set(1, most);
            x.claim(0);
            Due.is("a claimed copy is no loan", x.reason(LEND, 0, 19), most == 19 ? 3 : 0);
            x.lose(0);
            x.set(4, 100000);
            Due.is("nor is a lost one", x.reason(LEND, 0, 19), most == 19 ? 3 : 0);
        }
    }

    private static void renewedTwice() {
        for (int renewals = 0; renewals <= 2; renewals++) {
            int times = renewals;
            reason("renewed " + times + " times", x -> {
                desk(x, 1, 0);
                x.lend(0, 0);
                for (int i = 0; i < times; i++) {
                    x.pass(1);
                    x.renew(0);
                }
                x.pass(1);
                Due.is("renewals", x.copy(0, 8), times);
            }, RENEW, 0, 0, times == 2 ? 2 : 0);
        }
        Consumer<LibraryCirculation> refused = x -> {
            desk(x, 1, 0);
            x.lend(0, 0);
            x.renew(0);
            x.renew(0);
            x.pass(1);
        };
        reason("a renewal that is refused does not count", refused, RENEW, 0, 0, 0);
    }

    private static void dueLaterByADay() {
        for (int days = 13; days <= 16; days++) {
            int next = days;
            reason("due on day 15, would be due on day " + (next + 1), x -> {
                desk(x, 1, 0);
                x.set(0, 15);
                x.lend(0, 0);
                x.pass(1);
                x.set(0, next);
            }, RENEW, 0, 0, next + 1 > 15 ? 0 : 5);
        }
    }

    private static void twoClaims() {
        LibraryCirculation x = new LibraryCirculation();
        desk(x, 1, 0, 1, 2, 3);
        for (int copy = 0; copy < 4; copy++) {
            x.lend(0, copy);
        }
        Due.is("no claim", x.claim(0), 0);
        Due.is("one claim", x.claim(1), 0);
        Due.is("two claims", x.claim(2), -102);
        Due.is("claims", x.patron(0, 2), 2);
        x.bringBack(0, 0);
        Due.is("one claim left", x.claim(2), 0);
        Due.is("two claims again", x.claim(3), -102);
        x.set(6, 1);
        x.set(7, 1);
        x.pass(1);
        Due.is("both copies are lost", x.copyCount(5), 2);
        Due.is("the number of claims stays", x.claim(3), -102);
        x.bringBack(1, 0);
        x.bringBack(2, 0);
        Due.is("and when they come back", x.claim(3), -102);
        Due.is("claims", x.patron(0, 2), 2);
    }

    private static void threeHolds() {
        LibraryCirculation x = new LibraryCirculation();
        desk(x, 2, 0);
        Due.is("no hold, a copy is there", x.hold(0, 0, 0), 0);
        Due.is("one hold", x.hold(0, 1, 0), 1);
        Due.is("two holds", x.hold(0, 2, 0), 1);
        Due.is("three holds, one of them on the hold shelf", x.hold(0, 3, 0), -102);
        Due.is("another patron", x.hold(1, 3, 0), 1);
        x.lend(0, 0);
        Due.is("two holds, for one became a loan", x.hold(0, 3, 0), 2);
        Due.is("three holds", x.hold(0, 4, 0), -102);
        x.cancelHold(0, 2);
        Due.is("two holds, for one was cancelled", x.hold(0, 4, 0), 1);
    }
}
