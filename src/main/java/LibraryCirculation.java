/** A circulation desk for the branches of a library, as shared/DOC.md describes it. */
public final class LibraryCirculation {
    public static final int BAD = -1;
    public static final int NONE = -2;
    public static final int FULL = -3;

    private static final int BRANCHES = 4;
    private static final int TITLES = 6;
    private static final int MOST_COPIES = 20;
    private static final int MOST_PATRONS = 8;
    private static final int MOST_HOLDS = 24;
    private static final int MOST_ENTRIES = 60;
    private static final int MOST_UNDONE = 8;

    private static final int LONGEST_PASS = 400;
    private static final int MOST_RENEWALS = 2;
    private static final int MOST_CLAIMS_OF_PATRON = 2;
    private static final int MOST_HOLDS_OF_PATRON = 3;
    private static final int RECALL_DAYS_FROM_NOW = 3;
    private static final int RECALL_DAYS_FROM_BEGINNING = 7;

    /** The states of a copy. */
    private static final int ON_SHELF = 0;
    private static final int ON_LOAN = 1;
    private static final int ON_WAY = 2;
    private static final int ON_HOLD_SHELF = 3;
    private static final int CLAIMED = 4;
    private static final int LOST = 5;
    private static final int STATES = 6;

    /** The columns of a copy; the first ten are what copy(copy, what) answers. */
    private static final int TITLE = 0;
    private static final int HOME = 1;
    private static final int FLOATS = 2;
    private static final int STATE = 3;
    private static final int WHERE = 4;
    private static final int HOLDER = 5;
    private static final int WHEN = 6;
    private static final int BEGAN = 7;
    private static final int RENEWALS = 8;
    private static final int RECALLED = 9;
    private static final int COPY_WHATS = 10;
    private static final int NOTED_FINE = 10;
    private static final int PRICE_CHARGED = 11;
    private static final int COPY_COLUMNS = 12;

    /** The columns of a patron. */
    private static final int OWES = 0;
    private static final int CLAIMS = 1;
    private static final int CHARGED = 2;
    private static final int CREDITED = 3;
    private static final int PATRON_COLUMNS = 4;

    /** The columns of a hold; the first three are what holdAt(title, i, what) answers. */
    private static final int HOLD_PATRON = 0;
    private static final int HOLD_BRANCH = 1;
    private static final int HOLD_COPY = 2;
    private static final int HOLD_WHATS = 3;
    private static final int HOLD_TITLE = 3;
    private static final int HOLD_COLUMNS = 4;

    /** The columns of an entry of the ledger, which are what ledger(i, what) answers. */
    private static final int ENTRY_KIND = 0;
    private static final int ENTRY_PATRON = 1;
    private static final int ENTRY_AMOUNT = 2;
    private static final int ENTRY_COPY = 3;
    private static final int ENTRY_DAY = 4;
    private static final int ENTRY_COLUMNS = 5;

    /** The kinds of the entries of the ledger. */
    private static final int LATE_FINE = 0;
    private static final int LOST_PRICE = 1;
    private static final int PRICE_BACK = 2;
    private static final int PAYMENT = 3;
    private static final int WAIVER = 4;
    private static final int KINDS = 5;
    private static final int NO_COPY = -1;

    /** The settings. */
    private static final int LOAN_DAYS = 0;
    private static final int LOAN_LIMIT = 1;
    private static final int FINE_FOR_DAY = 2;
    private static final int FINE_CAP = 3;
    private static final int OWED_LIMIT = 4;
    private static final int HOLD_SHELF_DAYS = 5;
    private static final int COPY_PRICE = 6;
    private static final int CLAIM_DAYS = 7;
    private static final int[] LOWEST_VALUES = {1, 1, 0, 0, 1, 0, 0, 1};
    private static final int[] HIGHEST_VALUES = {60, 20, 1000, 10000, 100000, 30, 100000, 365};
    private static final int[] FIRST_VALUES = {14, 5, 25, 500, 1000, 7, 3000, 60};

    /** Answers below these tell a reason, an error position, or the command that failed. */
    private static final int REFUSED = -100;
    private static final int UNREADABLE = -200;
    private static final int NOT_EXECUTED = -300;

    private final State now = new State();
    /** The state after the latest change: what a change that succeeds leaves behind, and one that fails goes back to. */
    private final State settled = new State();
    private final State saved = new State();
    private boolean hasSaved = false;
    private final History history = new History();
    private final CommandText text = new CommandText();

    public LibraryCirculation() {
    }

    // Copies, patrons and settings

    public int addCopy(int title, int home) {
        if (!isTitle(title) || !isBranch(home)) return BAD;
        int copy = now.copies.addRow();
        if (copy < 0) return FULL;
        now.copies.put(copy, TITLE, title);
        now.copies.put(copy, HOME, home);
        becomeFree(copy, home);
        return settle(copy);
    }

    public int addPatron() {
        int patron = now.patrons.addRow();
        if (patron < 0) return FULL;
        return settle(patron);
    }

    public int set(int setting, int value) {
        if (!now.settings.has(setting) || !isInRange(setting, value)) return BAD;
        int previous = valueOf(setting);
        now.settings.put(setting, 0, value);
        return settle(previous);
    }

    public int setting(int setting) {
        return now.settings.has(setting) ? valueOf(setting) : BAD;
    }

    public int setFloating(int copy, boolean on) {
        if (!isCopy(copy)) return BAD;
        int previous = now.copies.get(copy, FLOATS);
        now.copies.put(copy, FLOATS, on ? 1 : 0);
        return settle(previous);
    }

    public int copyCount(int state) {
        if (state == -1) return now.copies.size();
        if (state < 0 || state >= STATES) return BAD;
        int count = 0;
        for (int copy = 0; copy < now.copies.size(); copy++) {
            if (stateOf(copy) == state) count++;
        }
        return count;
    }

    public int copy(int copy, int what) {
        if (!isCopy(copy) || what < 0 || what >= COPY_WHATS) return BAD;
        return now.copies.get(copy, what);
    }

    // Days

    public int day() {
        return now.today;
    }

    public int pass(int days) {
        return settle(letPass(days));
    }

    private int letPass(int days) {
        if (days < 1 || days > LONGEST_PASS) return BAD;
        for (int passed = 0; passed < days; passed++) {
            now.today++;
            arriveOnThisDay();
            expireBeforeThisDay();
            endClaims();
        }
        return now.today;
    }

    private void arriveOnThisDay() {
        for (int copy = 0; copy < now.copies.size(); copy++) {
            if (stateOf(copy) != ON_WAY || now.copies.get(copy, WHEN) > now.today) continue;
            int branch = now.copies.get(copy, WHERE);
            if (now.copies.get(copy, HOLDER) == NONE) {
                becomeFree(copy, branch);
            } else {
                putCopy(copy, ON_HOLD_SHELF, branch, now.today + valueOf(HOLD_SHELF_DAYS));
            }
        }
    }

    private void expireBeforeThisDay() {
        for (int copy = 0; copy < now.copies.size(); copy++) {
            if (stateOf(copy) != ON_HOLD_SHELF || now.copies.get(copy, WHEN) >= now.today) continue;
            removeHold(findHold(now.copies.get(copy, HOLDER), titleOf(copy)));
            becomeFree(copy, now.copies.get(copy, WHERE));
        }
    }

    private void endClaims() {
        for (int copy = 0; copy < now.copies.size(); copy++) {
            if (stateOf(copy) != CLAIMED) continue;
            if (now.today - now.copies.get(copy, WHEN) >= valueOf(CLAIM_DAYS)) becomeLost(copy);
        }
    }

    // Loans

    public int lend(int patron, int copy) {
        return settle(lendOut(patron, copy));
    }

    private int lendOut(int patron, int copy) {
        int reason = reasonAgainstLending(patron, copy);
        if (reason != 0) return refusal(reason);
        if (stateOf(copy) == ON_HOLD_SHELF) removeHold(findHold(patron, titleOf(copy)));
        int due = now.today + valueOf(LOAN_DAYS);
        putCopy(copy, ON_LOAN, patron, due);
        putLoan(copy, now.today, 0, 0);
        return due;
    }

    private int reasonAgainstLending(int patron, int copy) {
        if (!isPatron(patron) || !isCopy(copy)) return BAD;
        if (owesTheLimit(patron)) return 1;
        if (loanCount(patron) >= valueOf(LOAN_LIMIT)) return 2;
        return canBeTakenBy(patron, copy) ? 0 : 3;
    }

    private boolean canBeTakenBy(int patron, int copy) {
        int state = stateOf(copy);
        return state == ON_SHELF || state == ON_HOLD_SHELF && now.copies.get(copy, HOLDER) == patron;
    }

    public int bringBack(int copy, int branch) {
        return settle(takeBack(copy, branch));
    }

    private int takeBack(int copy, int branch) {
        if (!isCopy(copy) || !isBranch(branch)) return BAD;
        if (!isWithPatron(copy)) return NONE;
        int patron = now.copies.get(copy, WHERE);
        int state = stateOf(copy);
        if (state == CLAIMED) {
            now.patrons.put(patron, CLAIMS, now.patrons.get(patron, CLAIMS) - 1);
        } else {
            int fine = fineOf(copy);
            if (state == LOST) enter(PRICE_BACK, patron, -now.copies.get(copy, PRICE_CHARGED), copy);
            enter(LATE_FINE, patron, fine, copy);
        }
        becomeFree(copy, branch);
        return stateOf(copy);
    }

    public int renew(int copy) {
        return settle(renewLoan(copy));
    }

    private int renewLoan(int copy) {
        int reason = reasonAgainstRenewing(copy);
        if (reason != 0) return refusal(reason);
        int due = now.today + valueOf(LOAN_DAYS);
        now.copies.put(copy, WHEN, due);
        now.copies.put(copy, RENEWALS, now.copies.get(copy, RENEWALS) + 1);
        return due;
    }

    private int reasonAgainstRenewing(int copy) {
        if (!isCopy(copy)) return BAD;
        if (stateOf(copy) != ON_LOAN) return 1;
        if (now.copies.get(copy, RENEWALS) >= MOST_RENEWALS) return 2;
        if (now.copies.get(copy, RECALLED) == 1 || firstWaiting(titleOf(copy)) != NONE) return 3;
        if (owesTheLimit(now.copies.get(copy, WHERE))) return 4;
        return now.today + valueOf(LOAN_DAYS) > now.copies.get(copy, WHEN) ? 0 : 5;
    }

    public int claim(int copy) {
        int reason = reasonAgainstClaiming(copy);
        if (reason != 0) return refusal(reason);
        int patron = now.copies.get(copy, WHERE);
        int fine = fineOf(copy);
        now.copies.put(copy, NOTED_FINE, fine);
        now.patrons.put(patron, CLAIMS, now.patrons.get(patron, CLAIMS) + 1);
        putCopy(copy, CLAIMED, patron, now.today);
        return settle(fine);
    }

    private int reasonAgainstClaiming(int copy) {
        if (!isCopy(copy)) return BAD;
        if (stateOf(copy) != ON_LOAN) return 1;
        int claims = now.patrons.get(now.copies.get(copy, WHERE), CLAIMS);
        return claims >= MOST_CLAIMS_OF_PATRON ? 2 : 0;
    }

    public int lose(int copy) {
        int reason = reasonAgainstLosing(copy);
        if (reason != 0) return refusal(reason);
        becomeLost(copy);
        // settle() can't tell this change by its answer: a patron who was given back more than he owed owes less than 0.
        commit();
        return now.patrons.get(now.copies.get(copy, WHERE), OWES);
    }

    private int reasonAgainstLosing(int copy) {
        if (!isCopy(copy)) return BAD;
        int state = stateOf(copy);
        return state == ON_LOAN || state == CLAIMED ? 0 : 1;
    }

    // Holds

    public int hold(int patron, int title, int branch) {
        return settle(makeHold(patron, title, branch));
    }

    private int makeHold(int patron, int title, int branch) {
        if (!isBranch(branch)) return BAD;
        int reason = reasonAgainstHolding(patron, title);
        if (reason != 0) return refusal(reason);
        int hold = now.holds.addRow();
        if (hold < 0) return FULL;
        now.holds.put(hold, HOLD_PATRON, patron);
        now.holds.put(hold, HOLD_BRANCH, branch);
        now.holds.put(hold, HOLD_COPY, NONE);
        now.holds.put(hold, HOLD_TITLE, title);
        int copy = nearestOnShelf(title, branch);
        if (copy == NONE) {
            recallFor(title);
        } else {
            becomeFree(copy, now.copies.get(copy, WHERE));
        }
        return waitingBefore(now.holds.size(), title);
    }

    private int reasonAgainstHolding(int patron, int title) {
        if (!isPatron(patron) || !isTitle(title)) return BAD;
        if (owesTheLimit(patron)) return 1;
        if (holdsOf(patron) >= MOST_HOLDS_OF_PATRON) return 2;
        if (findHold(patron, title) != NONE) return 3;
        return hasLoanOf(patron, title) ? 4 : 0;
    }

    public int cancelHold(int patron, int title) {
        return settle(dropHold(patron, title));
    }

    private int dropHold(int patron, int title) {
        if (!isPatron(patron) || !isTitle(title)) return BAD;
        int hold = findHold(patron, title);
        if (hold == NONE) return NONE;
        int copy = now.holds.get(hold, HOLD_COPY);
        removeHold(hold);
        if (copy != NONE && stateOf(copy) == ON_HOLD_SHELF) becomeFree(copy, now.copies.get(copy, WHERE));
        return holdsBefore(now.holds.size(), title);
    }

    public int reason(int kind, int a, int b) {
        if (kind >= 1 && kind <= 3 && b != 0) return BAD;
        switch (kind) {
            case 0: return reasonAgainstLending(a, b);
            case 1: return reasonAgainstRenewing(a);
            case 2: return reasonAgainstClaiming(a);
            case 3: return reasonAgainstLosing(a);
            case 4: return reasonAgainstHolding(a, b);
            default: return BAD;
        }
    }

    public int holdCount(int title) {
        if (title == -1) return now.holds.size();
        return isTitle(title) ? holdsBefore(now.holds.size(), title) : BAD;
    }

    public int waiting(int title) {
        return isTitle(title) ? waitingBefore(now.holds.size(), title) : BAD;
    }

    public int holdAt(int title, int i, int what) {
        if (!isTitle(title) || what < 0 || what >= HOLD_WHATS) return BAD;
        int position = 0;
        for (int hold = 0; hold < now.holds.size(); hold++) {
            if (now.holds.get(hold, HOLD_TITLE) != title) continue;
            if (position == i) return now.holds.get(hold, what);
            position++;
        }
        return NONE;
    }

    public int place(int patron, int title) {
        if (!isPatron(patron) || !isTitle(title)) return BAD;
        int hold = findHold(patron, title);
        return hold == NONE ? NONE : holdsBefore(hold, title);
    }

    public int estimate(int patron, int title) {
        if (!isPatron(patron) || !isTitle(title)) return BAD;
        int hold = findHold(patron, title);
        if (hold == NONE || now.holds.get(hold, HOLD_COPY) != NONE) return NONE;
        int position = waitingBefore(hold, title);
        for (int copy = 0; copy < now.copies.size(); copy++) {
            int day = expectedDay(copy, title);
            if (day != NONE && expectedBefore(day, copy, title) == position) return day;
        }
        return NONE;
    }

    /** The day on which a copy is expected back for the waiting holds of a title, NONE if it is not. */
    private int expectedDay(int copy, int title) {
        if (titleOf(copy) != title) return NONE;
        int day = now.copies.get(copy, WHEN);
        if (stateOf(copy) == ON_LOAN) return Math.max(day, now.today);
        return stateOf(copy) == ON_WAY && now.copies.get(copy, HOLDER) == NONE ? day : NONE;
    }

    private int expectedBefore(int day, int copy, int title) {
        int count = 0;
        for (int other = 0; other < now.copies.size(); other++) {
            int otherDay = expectedDay(other, title);
            if (otherDay != NONE && isBefore(otherDay, other, day, copy)) count++;
        }
        return count;
    }

    // Patrons and money

    public int patronCount() {
        return now.patrons.size();
    }

    public int owes(int patron) {
        return isPatron(patron) ? now.patrons.get(patron, OWES) : BAD;
    }

    public int accrued(int patron) {
        if (!isPatron(patron)) return BAD;
        int sum = 0;
        for (int copy = 0; copy < now.copies.size(); copy++) {
            if (isAt(copy, ON_LOAN, patron)) sum += fineOf(copy);
        }
        return sum;
    }

    public int patron(int patron, int what) {
        if (!isPatron(patron)) return BAD;
        switch (what) {
            case 0: return loanCount(patron);
            case 1: return holdsOf(patron);
            case 2: return now.patrons.get(patron, CLAIMS);
            case 3: return overdueCount(patron);
            case 4: return now.patrons.get(patron, CHARGED);
            case 5: return now.patrons.get(patron, CREDITED);
            default: return BAD;
        }
    }

    public int loanOf(int patron, int i) {
        return isPatron(patron) ? nextByDay(ON_LOAN, patron, i) : BAD;
    }

    public int fine(int copy) {
        if (!isCopy(copy)) return BAD;
        return isWithPatron(copy) ? fineOf(copy) : NONE;
    }

    public int pay(int patron, int amount) {
        return settle(credit(PAYMENT, patron, amount));
    }

    public int waive(int patron, int amount) {
        return settle(credit(WAIVER, patron, amount));
    }

    private int credit(int kind, int patron, int amount) {
        if (!isPatron(patron) || amount < 1 || amount > now.patrons.get(patron, OWES)) return BAD;
        enter(kind, patron, -amount, NO_COPY);
        return now.patrons.get(patron, OWES);
    }

    public int ledgerSize() {
        return now.ledger.size();
    }

    public int ledger(int i, int what) {
        if (!now.ledger.has(i) || what < 0 || what >= ENTRY_COLUMNS) return Integer.MIN_VALUE;
        return now.ledger.get(i, what);
    }

    public int ledgerSum(int patron, int kind) {
        if (!isPatron(patron) || kind < -1 || kind >= KINDS) return Integer.MIN_VALUE;
        int sum = 0;
        for (int entry = 0; entry < now.ledger.size(); entry++) {
            boolean counts = kind == -1 || now.ledger.get(entry, ENTRY_KIND) == kind;
            if (counts && now.ledger.get(entry, ENTRY_PATRON) == patron) sum += now.ledger.get(entry, ENTRY_AMOUNT);
        }
        return sum;
    }

    // Branches

    public int shelf(int branch, int i) {
        if (!isBranch(branch)) return BAD;
        int count = 0;
        for (int copy = 0; copy < now.copies.size(); copy++) {
            if (!isAt(copy, ON_SHELF, branch) && !isAt(copy, ON_HOLD_SHELF, branch)) continue;
            if (count == i) return copy;
            count++;
        }
        return i == -1 ? count : NONE;
    }

    public int arriving(int branch, int i) {
        return isBranch(branch) ? nextByDay(ON_WAY, branch, i) : BAD;
    }

    // Commands

    public int feed(int letter) {
        if (letter < ' ' || letter > '~') return BAD;
        return text.append(letter);
    }

    public int execute() {
        boolean readable = text.readAll();
        text.emptyBuffer();
        if (!readable) return UNREADABLE - text.position();
        int count = text.commandCount();
        for (int command = 0; command < count; command++) {
            if (runCommand(command) < 0) {
                now.copyFrom(settled);
                return NOT_EXECUTED - command;
            }
        }
        return settle(count);
    }

    /** No command answers with an amount below 0, so that a negative answer is an error code or a refusal. */
    private int runCommand(int command) {
        int a = text.number(command, 0);
        int b = text.number(command, 1);
        switch (text.letter(command)) {
            case 'o': return lendOut(a, b);
            case 'i': return takeBack(a, b);
            case 'h': return makeHold(a, b, text.number(command, 2));
            case 'c': return dropHold(a, b);
            case 'r': return renewLoan(a);
            case 'd': return letPass(a);
            case 'p': return credit(PAYMENT, a, b);
            default: return BAD;
        }
    }

    // Changes and snapshots

    public int save() {
        saved.copyFrom(now);
        hasSaved = true;
        return now.today;
    }

    public int restore() {
        if (!hasSaved) return NONE;
        now.copyFrom(saved);
        return settle(now.today);
    }

    public int undo() {
        if (history.isEmpty()) return NONE;
        history.pop(now);
        settled.copyFrom(now);
        return history.size();
    }

    /** Passes a call's answer on, and makes what the call did a change, unless the answer is an error code or a refusal. */
    private int settle(int answer) {
        if (answer >= 0) commit();
        return answer;
    }

    private void commit() {
        history.push(settled);
        settled.copyFrom(now);
    }

    private static int refusal(int reason) {
        return reason < 0 ? reason : REFUSED - reason;
    }

    // What arguments may be

    private static boolean isBranch(int branch) {
        return branch >= 0 && branch < BRANCHES;
    }

    private static boolean isTitle(int title) {
        return title >= 0 && title < TITLES;
    }

    private boolean isCopy(int copy) {
        return now.copies.has(copy);
    }

    private boolean isPatron(int patron) {
        return now.patrons.has(patron);
    }

    private static boolean isInRange(int setting, int value) {
        if (setting < 0 || setting >= LOWEST_VALUES.length || setting >= HIGHEST_VALUES.length) return false;
        return value >= LOWEST_VALUES[setting] && value <= HIGHEST_VALUES[setting];
    }

    // Where copies are and go

    private int valueOf(int setting) {
        return now.settings.get(setting, 0);
    }

    private int stateOf(int copy) {
        return now.copies.get(copy, STATE);
    }

    private int titleOf(int copy) {
        return now.copies.get(copy, TITLE);
    }

    private boolean isAt(int copy, int state, int where) {
        return stateOf(copy) == state && now.copies.get(copy, WHERE) == where;
    }

    private boolean isWithPatron(int copy) {
        int state = stateOf(copy);
        return state == ON_LOAN || state == CLAIMED || state == LOST;
    }

    private void putCopy(int copy, int state, int where, int when) {
        now.copies.put(copy, STATE, state);
        now.copies.put(copy, WHERE, where);
        now.copies.put(copy, WHEN, when);
    }

    private void putLoan(int copy, int began, int renewals, int recalled) {
        now.copies.put(copy, BEGAN, began);
        now.copies.put(copy, RENEWALS, renewals);
        now.copies.put(copy, RECALLED, recalled);
    }

    private void becomeFree(int copy, int branch) {
        int hold = firstWaiting(titleOf(copy));
        int goal = branch;
        int holder = NONE;
        if (hold != NONE) {
            now.holds.put(hold, HOLD_COPY, copy);
            goal = now.holds.get(hold, HOLD_BRANCH);
            holder = now.holds.get(hold, HOLD_PATRON);
        } else if (now.copies.get(copy, FLOATS) == 0) {
            goal = now.copies.get(copy, HOME);
        }
        putLoan(copy, NONE, NONE, NONE);
        now.copies.put(copy, HOLDER, holder);
        if (goal != branch) {
            putCopy(copy, ON_WAY, goal, now.today + wayBetween(branch, goal));
        } else if (hold != NONE) {
            putCopy(copy, ON_HOLD_SHELF, branch, now.today + valueOf(HOLD_SHELF_DAYS));
        } else {
            putCopy(copy, ON_SHELF, branch, NONE);
        }
    }

    private void becomeLost(int copy) {
        int patron = now.copies.get(copy, WHERE);
        int price = valueOf(COPY_PRICE);
        now.copies.put(copy, NOTED_FINE, fineOf(copy));
        // What is given back later is what was charged, however the price is set by then.
        now.copies.put(copy, PRICE_CHARGED, price);
        putCopy(copy, LOST, patron, NONE);
        enter(LOST_PRICE, patron, price, copy);
    }

    private static int wayBetween(int from, int to) {
        return Math.abs(from - to);
    }

    private int nearestOnShelf(int title, int branch) {
        int nearest = NONE;
        int shortest = BRANCHES;
        for (int copy = 0; copy < now.copies.size(); copy++) {
            if (titleOf(copy) != title || stateOf(copy) != ON_SHELF) continue;
            int way = wayBetween(now.copies.get(copy, WHERE), branch);
            if (way < shortest) {
                nearest = copy;
                shortest = way;
            }
        }
        return nearest;
    }

    private void recallFor(int title) {
        int copy = earliestNotRecalled(title);
        if (copy == NONE) return;
        int fromNow = now.today + RECALL_DAYS_FROM_NOW;
        int fromBeginning = now.copies.get(copy, BEGAN) + RECALL_DAYS_FROM_BEGINNING;
        int due = Math.min(now.copies.get(copy, WHEN), Math.max(fromNow, fromBeginning));
        now.copies.put(copy, WHEN, due);
        now.copies.put(copy, RECALLED, 1);
    }

    private int earliestNotRecalled(int title) {
        int earliest = NONE;
        for (int copy = 0; copy < now.copies.size(); copy++) {
            if (titleOf(copy) != title || stateOf(copy) != ON_LOAN || now.copies.get(copy, RECALLED) == 1) continue;
            if (earliest == NONE || now.copies.get(copy, BEGAN) < now.copies.get(earliest, BEGAN)) earliest = copy;
        }
        return earliest;
    }

    /** The copy at a position of those in a state at a branch or patron, in the order of their days; NONE beyond them. */
    private int nextByDay(int state, int where, int position) {
        for (int copy = 0; copy < now.copies.size(); copy++) {
            if (isAt(copy, state, where) && countBefore(copy, state, where) == position) return copy;
        }
        return NONE;
    }

    private int countBefore(int copy, int state, int where) {
        int day = now.copies.get(copy, WHEN);
        int count = 0;
        for (int other = 0; other < now.copies.size(); other++) {
            if (isAt(other, state, where) && isBefore(now.copies.get(other, WHEN), other, day, copy)) count++;
        }
        return count;
    }

    private static boolean isBefore(int day, int copy, int otherDay, int otherCopy) {
        return day < otherDay || day == otherDay && copy < otherCopy;
    }

    // The queues of holds

    /** A patron has at most one hold of a title, so that the two of them tell it. */
    private int findHold(int patron, int title) {
        for (int hold = 0; hold < now.holds.size(); hold++) {
            if (now.holds.get(hold, HOLD_PATRON) == patron && now.holds.get(hold, HOLD_TITLE) == title) return hold;
        }
        return NONE;
    }

    private void removeHold(int hold) {
        int copy = now.holds.get(hold, HOLD_COPY);
        if (copy != NONE) now.copies.put(copy, HOLDER, NONE);
        now.holds.removeRow(hold);
    }

    private boolean isWaiting(int hold, int title) {
        return now.holds.get(hold, HOLD_TITLE) == title && now.holds.get(hold, HOLD_COPY) == NONE;
    }

    private int firstWaiting(int title) {
        for (int hold = 0; hold < now.holds.size(); hold++) {
            if (isWaiting(hold, title)) return hold;
        }
        return NONE;
    }

    private int waitingBefore(int end, int title) {
        int count = 0;
        for (int hold = 0; hold < end; hold++) {
            if (isWaiting(hold, title)) count++;
        }
        return count;
    }

    private int holdsBefore(int end, int title) {
        int count = 0;
        for (int hold = 0; hold < end; hold++) {
            if (now.holds.get(hold, HOLD_TITLE) == title) count++;
        }
        return count;
    }

    // What patrons have and owe

    private int holdsOf(int patron) {
        int count = 0;
        for (int hold = 0; hold < now.holds.size(); hold++) {
            if (now.holds.get(hold, HOLD_PATRON) == patron) count++;
        }
        return count;
    }

    private int loanCount(int patron) {
        int count = 0;
        for (int copy = 0; copy < now.copies.size(); copy++) {
            if (isAt(copy, ON_LOAN, patron)) count++;
        }
        return count;
    }

    private int overdueCount(int patron) {
        int count = 0;
        for (int copy = 0; copy < now.copies.size(); copy++) {
            if (isAt(copy, ON_LOAN, patron) && now.copies.get(copy, WHEN) < now.today) count++;
        }
        return count;
    }

    private boolean hasLoanOf(int patron, int title) {
        for (int copy = 0; copy < now.copies.size(); copy++) {
            if (isAt(copy, ON_LOAN, patron) && titleOf(copy) == title) return true;
        }
        return false;
    }

    private boolean owesTheLimit(int patron) {
        return now.patrons.get(patron, OWES) >= valueOf(OWED_LIMIT);
    }

    /** The late fine of a loan on this day, or the one that was noted when it was claimed or lost. */
    private int fineOf(int copy) {
        if (stateOf(copy) != ON_LOAN) return now.copies.get(copy, NOTED_FINE);
        long daysLate = (long) now.today - now.copies.get(copy, WHEN);
        if (daysLate <= 0) return 0;
        return (int) Math.min(valueOf(FINE_CAP), daysLate * valueOf(FINE_FOR_DAY));
    }

    private void enter(int kind, int patron, int amount, int copy) {
        if (amount == 0) return;
        int sum = amount > 0 ? CHARGED : CREDITED;
        now.patrons.put(patron, OWES, now.patrons.get(patron, OWES) + amount);
        now.patrons.put(patron, sum, now.patrons.get(patron, sum) + Math.abs(amount));
        if (now.ledger.size() == MOST_ENTRIES) now.ledger.removeRow(0);
        int entry = now.ledger.addRow();
        now.ledger.put(entry, ENTRY_KIND, kind);
        now.ledger.put(entry, ENTRY_PATRON, patron);
        now.ledger.put(entry, ENTRY_AMOUNT, amount);
        now.ledger.put(entry, ENTRY_COPY, copy);
        now.ledger.put(entry, ENTRY_DAY, now.today);
    }

    /** A list of rows of numbers, all of the same columns. What is outside of it reads as 0 and takes nothing. */
    private static final class Table {
        private final int capacity;
        private final int columns;
        private final int[] cells;
        private int size = 0;

        Table(int capacity, int columns) {
            this.capacity = capacity;
            this.columns = columns;
            this.cells = new int[Math.max(0, capacity * columns)];
        }

        int size() {
            return size;
        }

        boolean has(int row) {
            return row >= 0 && row < size;
        }

        /** The new row, all 0; or FULL. */
        int addRow() {
            if (size >= capacity) return FULL;
            size++;
            for (int column = 0; column < columns; column++) {
                put(size - 1, column, 0);
            }
            return size - 1;
        }

        void removeRow(int row) {
            if (!has(row)) return;
            for (int next = row + 1; next < size; next++) {
                for (int column = 0; column < columns; column++) {
                    put(next - 1, column, get(next, column));
                }
            }
            size--;
        }

        void removeAllRows() {
            size = 0;
        }

        int get(int row, int column) {
            if (row < 0 || row >= size || column < 0 || column >= columns) return 0;
            int cell = row * columns + column;
            return cell < cells.length ? cells[cell] : 0;
        }

        void put(int row, int column, int value) {
            if (row < 0 || row >= size || column < 0 || column >= columns) return;
            int cell = row * columns + column;
            if (cell < cells.length) cells[cell] = value;
        }

        void overwriteWith(Table other) {
            System.arraycopy(other.cells, 0, cells, 0, Math.min(cells.length, other.cells.length));
            size = other.size;
        }
    }

    /** All that save() saves and undo() brings back. */
    private static final class State {
        private final Table copies = new Table(MOST_COPIES, COPY_COLUMNS);
        private final Table patrons = new Table(MOST_PATRONS, PATRON_COLUMNS);
        private final Table holds = new Table(MOST_HOLDS, HOLD_COLUMNS);
        private final Table ledger = new Table(MOST_ENTRIES, ENTRY_COLUMNS);
        private final Table settings = new Table(FIRST_VALUES.length, 1);
        private int today = 0;

        State() {
            for (int setting = 0; setting < FIRST_VALUES.length; setting++) {
                settings.put(settings.addRow(), 0, FIRST_VALUES[setting]);
            }
        }

        void copyFrom(State other) {
            copies.overwriteWith(other.copies);
            patrons.overwriteWith(other.patrons);
            holds.overwriteWith(other.holds);
            ledger.overwriteWith(other.ledger);
            settings.overwriteWith(other.settings);
            today = other.today;
        }
    }

    /** The states before the latest changes. The states are made once and written over, the oldest one first. */
    private static final class History {
        private final State[] states = new State[MOST_UNDONE];
        private int next = 0;
        private int size = 0;

        History() {
            for (int i = 0; i < states.length; i++) {
                states[i] = new State();
            }
        }

        int size() {
            return size;
        }

        boolean isEmpty() {
            return size == 0;
        }

        void push(State state) {
            State kept = at(next);
            if (kept != null) kept.copyFrom(state);
            next = next + 1 < states.length ? next + 1 : 0;
            size = Math.min(size + 1, states.length);
        }

        /** Takes the latest state away and writes it into another one. */
        void pop(State into) {
            if (size == 0) return;
            next = next > 0 ? next - 1 : states.length - 1;
            size--;
            State kept = at(next);
            if (kept != null) into.copyFrom(kept);
        }

        private State at(int place) {
            return place >= 0 && place < states.length ? states[place] : null;
        }
    }

    /** The text buffer, and the commands that were read from it. */
    private static final class CommandText {
        private static final int MOST_LETTERS = 60;
        /** A command takes four letters with its semicolon, but the last one takes three. */
        private static final int MOST_COMMANDS = (MOST_LETTERS + 1) / 4;
        private static final int MOST_NUMBERS = 3;
        private static final int MOST_DIGITS = 5;
        private static final int END = 0;

        private final int[] letters = new int[MOST_LETTERS];
        private int length = 0;
        private int position = 0;
        /** Each row is the letter of a command and then its numbers. */
        private final Table commands = new Table(MOST_COMMANDS, 1 + MOST_NUMBERS);

        int append(int letter) {
            if (length < 0 || length >= letters.length) return FULL;
            letters[length] = letter;
            length++;
            return length;
        }

        /** The commands that were read stay. */
        void emptyBuffer() {
            length = 0;
        }

        int commandCount() {
            return commands.size();
        }

        int letter(int command) {
            return commands.get(command, 0);
        }

        int number(int command, int i) {
            return commands.get(command, 1 + i);
        }

        /** After a text that could not be read, the error position. */
        int position() {
            return position;
        }

        /** Reads the whole buffer, and says whether it is a command text. */
        boolean readAll() {
            commands.removeAllRows();
            position = 0;
            for (int command = 0; command < MOST_COMMANDS; command++) {
                if (!readCommand()) return false;
                if (position == length) return true;
                if (letterAt(position) != ';') return false;
                position++;
            }
            return false;
        }

        private boolean readCommand() {
            int letter = letterAt(position);
            int numbers = numbersOf(letter);
            if (numbers == 0) return false;
            int command = commands.addRow();
            commands.put(command, 0, letter);
            position++;
            for (int i = 0; i < numbers; i++) {
                if (!readNumber(command, 1 + i)) return false;
            }
            return true;
        }

        private boolean readNumber(int command, int column) {
            if (letterAt(position) != ' ') return false;
            position++;
            if (!isDigit(letterAt(position))) return false;
            int value = 0;
            for (int digits = 0; digits < MOST_DIGITS && isDigit(letterAt(position)); digits++) {
                value = 10 * value + letterAt(position) - '0';
                position++;
            }
            commands.put(command, column, value);
            return true;
        }

        private int letterAt(int place) {
            return place >= 0 && place < length && place < letters.length ? letters[place] : END;
        }

        private static boolean isDigit(int letter) {
            return letter >= '0' && letter <= '9';
        }

        private static int numbersOf(int letter) {
            switch (letter) {
                case 'h': return 3;
                case 'o': case 'i': case 'c': case 'p': return 2;
                case 'r': case 'd': return 1;
                default: return 0;
            }
        }
    }
}
