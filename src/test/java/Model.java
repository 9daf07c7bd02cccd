import java.util.ArrayDeque;
import java.util.ArrayList;
import java.util.Comparator;
import java.util.Deque;
import java.util.List;
import java.util.regex.Matcher;
import java.util.regex.Pattern;
import java.util.stream.Collectors;

/** A second reading of the document, made for comparison: objects and lists, copied whole for each change. */
final class Model {
    static final int BAD = -1;
    static final int NONE = -2;
    static final int FULL = -3;

    static final class Copy {
        int title;
        int home;
        boolean floats;
        int state;
        int place;
        Hold hold;
        int day = NONE;
        int began = NONE;
        int renewals = NONE;
        int recalled = NONE;
        int noted;
        int price;
    }

    static final class Hold {
        int patron;
        int title;
        int branch;
        Copy copy;
    }

    static final class Entry {
        final int[] numbers;

        Entry(int... numbers) {
            this.numbers = numbers;
        }
    }

    /** All but the buffer, the snapshot and what can be undone. */
    static final class Desk {
        int day;
        int[] settings = {14, 5, 25, 500, 1000, 7, 3000, 60};
        List<Copy> copies = new ArrayList<>();
        List<Hold> holds = new ArrayList<>();
        List<Entry> entries = new ArrayList<>();
        List<Integer> claims = new ArrayList<>();

        Desk twin() {
            Desk twin = new Desk();
            twin.day = day;
            twin.settings = settings.clone();
            twin.entries.addAll(entries);
            twin.claims.addAll(claims);
            for (Hold hold : holds) {
                Hold h = new Hold();
                h.patron = hold.patron;
                h.title = hold.title;
                h.branch = hold.branch;
                twin.holds.add(h);
            }
            for (Copy copy : copies) {
                Copy c = new Copy();
                c.title = copy.title;
                c.home = copy.home;
                c.floats = copy.floats;
                c.state = copy.state;
                c.place = copy.place;
                c.day = copy.day;
                c.began = copy.began;
                c.renewals = copy.renewals;
                c.recalled = copy.recalled;
                c.noted = copy.noted;
                c.price = copy.price;
                if (copy.hold != null) {
                    c.hold = twin.holds.get(holds.indexOf(copy.hold));
                    c.hold.copy = c;
                }
                twin.copies.add(c);
            }
            return twin;
        }
    }

    private static final int[] LOW = {1, 1, 0, 0, 1, 0, 0, 1};
    private static final int[] HIGH = {60, 20, 1000, 10000, 100000, 30, 100000, 365};

    private Desk desk = new Desk();
    private Desk snapshot;
    private final Deque<Desk> past = new ArrayDeque<>();
    private String buffer = "";
    private boolean executing;

    private Copy copyOf(int number) {
        return number >= 0 && number < desk.copies.size() ? desk.copies.get(number) : null;
    }

    private boolean patronExists(int patron) {
        return patron >= 0 && patron < desk.claims.size();
    }

    private static boolean branchExists(int branch) {
        return branch >= 0 && branch <= 3;
    }

    private static boolean titleExists(int title) {
        return title >= 0 && title <= 5;
    }

    /** Called before each change that is known to succeed. */
    private void change() {
        if (executing) return;
        past.push(desk.twin());
        while (past.size() > 8) past.removeLast();
    }

    private List<Copy> loans(int patron) {
        return desk.copies.stream().filter(c -> c.state == 1 && c.place == patron).collect(Collectors.toList());
    }

    private List<Hold> queue(int title) {
        return desk.holds.stream().filter(h -> h.title == title).collect(Collectors.toList());
    }

    private List<Hold> waitingOf(int title) {
        return queue(title).stream().filter(h -> h.copy == null).collect(Collectors.toList());
    }

    private Hold holdOf(int patron, int title) {
        return queue(title).stream().filter(h -> h.patron == patron).findFirst().orElse(null);
    }

    private int late(Copy copy) {
        return Math.min(desk.settings[3], Math.max(0, desk.day - copy.day) * desk.settings[2]);
    }

    private void book(int kind, int patron, int amount, Copy copy) {
        if (amount != 0) {
            desk.entries.add(new Entry(kind, patron, amount, copy == null ? -1 : desk.copies.indexOf(copy), desk.day));
        }
    }

    private List<Entry> kept() {
        return desk.entries.subList(Math.max(0, desk.entries.size() - 60), desk.entries.size());
    }

    private int debt(int patron) {
        return desk.entries.stream().filter(e -> e.numbers[1] == patron).mapToInt(e -> e.numbers[2]).sum();
    }

    private boolean atLimit(int patron) {
        return debt(patron) >= desk.settings[4];
    }

    private void free(Copy copy, int branch) {
        copy.hold = null;
        copy.began = NONE;
        copy.renewals = NONE;
        copy.recalled = NONE;
        copy.day = NONE;
        List<Hold> waiting = waitingOf(copy.title);
        if (!waiting.isEmpty()) {
            Hold hold = waiting.get(0);
            hold.copy = copy;
            copy.hold = hold;
            copy.place = hold.branch;
            if (hold.branch == branch) {
                copy.state = 3;
                copy.day = desk.day + desk.settings[5];
            } else {
                copy.state = 2;
                copy.day = desk.day + Math.abs(branch - hold.branch);
            }
        } else if (copy.floats || copy.home == branch) {
            copy.state = 0;
            copy.place = branch;
        } else {
            copy.state = 2;
            copy.place = copy.home;
            copy.day = desk.day + Math.abs(branch - copy.home);
        }
    }

    private void vanish(Copy copy) {
        if (copy.state == 1) copy.noted = late(copy);
        copy.state = 5;
        copy.day = NONE;
        copy.price = desk.settings[6];
        book(1, copy.place, copy.price, copy);
    }

    int addCopy(int title, int home) {
        if (!titleExists(title) || !branchExists(home)) return BAD;
        if (desk.copies.size() == 20) return FULL;
        change();
        Copy copy = new Copy();
        copy.title = title;
        copy.home = home;
        desk.copies.add(copy);
        free(copy, home);
        return desk.copies.size() - 1;
    }

    int addPatron() {
        if (desk.claims.size() == 8) return FULL;
        change();
        desk.claims.add(0);
        return desk.claims.size() - 1;
    }

    int set(int setting, int value) {
        if (setting < 0 || setting > 7 || value < LOW[setting] || value > HIGH[setting]) return BAD;
        change();
        int before = desk.settings[setting];
        desk.settings[setting] = value;
        return before;
    }

    int setting(int setting) {
        return setting < 0 || setting > 7 ? BAD : desk.settings[setting];
    }

    int setFloating(int number, boolean on) {
        if (copyOf(number) == null) return BAD;
        change();
        boolean before = copyOf(number).floats;
        copyOf(number).floats = on;
        return before ? 1 : 0;
    }

    int copyCount(int state) {
        if (state < -1 || state > 5) return BAD;
        return (int) desk.copies.stream().filter(c -> state == -1 || c.state == state).count();
    }

    int copy(int number, int what) {
        Copy c = copyOf(number);
        if (c == null || what < 0 || what > 9) return BAD;
        boolean lent = c.state == 1 || c.state == 4 || c.state == 5;
        switch (what) {
            case 0: return c.title;
            case 1: return c.home;
            case 2: return c.floats ? 1 : 0;
            case 3: return c.state;
            case 4: return c.place;
            case 5: return c.hold == null ? NONE : c.hold.patron;
            case 6: return c.state == 0 || c.state == 5 ? NONE : c.day;
            case 7: return lent ? c.began : NONE;
            case 8: return lent ? c.renewals : NONE;
            default: return lent ? c.recalled : NONE;
        }
    }

    int day() {
        return desk.day;
    }

    int pass(int days) {
        if (days < 1 || days > 400) return BAD;
        change();
        for (int i = 0; i < days; i++) {
            nextDay();
        }
        return desk.day;
    }

    private void nextDay() {
        int today = ++desk.day;
        for (Copy c : desk.copies) {
            if (c.state == 2 && c.day <= today) {
                if (c.hold != null) {
                    c.state = 3;
                    c.day = today + desk.settings[5];
                } else {
                    free(c, c.place);
                }
            }
        }
        for (Copy c : desk.copies) {
            if (c.state == 3 && c.day < today) {
                desk.holds.remove(c.hold);
                free(c, c.place);
            }
        }
        for (Copy c : desk.copies) {
            if (c.state == 4 && today >= c.day + desk.settings[7]) vanish(c);
        }
    }

    private int whyNotLend(int patron, int number) {
        Copy c = copyOf(number);
        if (!patronExists(patron) || c == null) return BAD;
        if (atLimit(patron)) return 1;
        if (loans(patron).size() >= desk.settings[1]) return 2;
        boolean there = c.state == 0 || c.state == 3 && c.hold.patron == patron;
        return there ? 0 : 3;
    }

    int lend(int patron, int number) {
        int why = whyNotLend(patron, number);
        if (why != 0) return why == BAD ? BAD : -100 - why;
        change();
        Copy c = copyOf(number);
        if (c.hold != null) desk.holds.remove(c.hold);
        c.hold = null;
        c.state = 1;
        c.place = patron;
        c.began = desk.day;
        c.renewals = 0;
        c.recalled = 0;
        c.day = desk.day + desk.settings[0];
        return c.day;
    }

    int bringBack(int number, int branch) {
        Copy c = copyOf(number);
        if (c == null || !branchExists(branch)) return BAD;
        if (c.state != 1 && c.state != 4 && c.state != 5) return NONE;
        change();
        c = copyOf(number);
        int patron = c.place;
        if (c.state == 1) book(0, patron, late(c), c);
        if (c.state == 4) desk.claims.set(patron, desk.claims.get(patron) - 1);
        if (c.state == 5) {
            book(2, patron, -c.price, c);
            book(0, patron, c.noted, c);
        }
        free(c, branch);
        return c.state;
    }

    private int whyNotRenew(int number) {
        Copy c = copyOf(number);
        if (c == null) return BAD;
        if (c.state != 1) return 1;
        if (c.renewals >= 2) return 2;
        if (c.recalled == 1 || !waitingOf(c.title).isEmpty()) return 3;
        if (atLimit(c.place)) return 4;
        return desk.day + desk.settings[0] <= c.day ? 5 : 0;
    }

    int renew(int number) {
        int why = whyNotRenew(number);
        if (why != 0) return why == BAD ? BAD : -100 - why;
        change();
        Copy c = copyOf(number);
        c.renewals++;
        c.day = desk.day + desk.settings[0];
        return c.day;
    }

    private int whyNotClaim(int number) {
        Copy c = copyOf(number);
        if (c == null) return BAD;
        if (c.state != 1) return 1;
        return desk.claims.get(c.place) >= 2 ? 2 : 0;
    }

    int claim(int number) {
        int why = whyNotClaim(number);
        if (why != 0) return why == BAD ? BAD : -100 - why;
        change();
        Copy c = copyOf(number);
        c.noted = late(c);
        c.state = 4;
        c.day = desk.day;
        desk.claims.set(c.place, desk.claims.get(c.place) + 1);
        return c.noted;
    }

    private int whyNotLose(int number) {
        Copy c = copyOf(number);
        if (c == null) return BAD;
        return c.state == 1 || c.state == 4 ? 0 : 1;
    }

    int lose(int number) {
        int why = whyNotLose(number);
        if (why != 0) return why == BAD ? BAD : -100 - why;
        change();
        vanish(copyOf(number));
        return debt(copyOf(number).place);
    }

    private int whyNotHold(int patron, int title) {
        if (!patronExists(patron) || !titleExists(title)) return BAD;
        if (atLimit(patron)) return 1;
        if (desk.holds.stream().filter(h -> h.patron == patron).count() >= 3) return 2;
        if (holdOf(patron, title) != null) return 3;
        return loans(patron).stream().anyMatch(c -> c.title == title) ? 4 : 0;
    }

    int hold(int patron, int title, int branch) {
        int why = branchExists(branch) ? whyNotHold(patron, title) : BAD;
        if (why != 0) return why == BAD ? BAD : -100 - why;
        if (desk.holds.size() >= 24) return FULL;
        change();
        Hold hold = new Hold();
        hold.patron = patron;
        hold.title = title;
        hold.branch = branch;
        desk.holds.add(hold);
        Copy nearest = desk.copies.stream().filter(c -> c.title == title && c.state == 0)
            .min(Comparator.comparingInt(c -> Math.abs(c.place - branch))).orElse(null);
        if (nearest != null) {
            free(nearest, nearest.place);
        } else {
            desk.copies.stream().filter(c -> c.title == title && c.state == 1 && c.recalled == 0)
                .min(Comparator.comparingInt(c -> c.began)).ifPresent(this::recall);
        }
        return waitingOf(title).size();
    }

    private void recall(Copy c) {
        c.recalled = 1;
        c.day = Math.min(c.day, Math.max(desk.day + 3, c.began + 7));
    }

    int cancelHold(int patron, int title) {
        if (!patronExists(patron) || !titleExists(title)) return BAD;
        if (holdOf(patron, title) == null) return NONE;
        change();
        Hold hold = holdOf(patron, title);
        desk.holds.remove(hold);
        if (hold.copy != null) {
            hold.copy.hold = null;
            if (hold.copy.state == 3) free(hold.copy, hold.copy.place);
        }
        return queue(title).size();
    }

    int reason(int kind, int a, int b) {
        if (kind == 0) return whyNotLend(a, b);
        if (kind == 4) return whyNotHold(a, b);
        if (kind < 0 || kind > 4 || b != 0) return BAD;
        return kind == 1 ? whyNotRenew(a) : kind == 2 ? whyNotClaim(a) : whyNotLose(a);
    }

    int holdCount(int title) {
        if (title == -1) return desk.holds.size();
        return titleExists(title) ? queue(title).size() : BAD;
    }

    int waiting(int title) {
        return titleExists(title) ? waitingOf(title).size() : BAD;
    }

    int holdAt(int title, int i, int what) {
        if (!titleExists(title) || what < 0 || what > 2) return BAD;
        if (i < 0 || i >= queue(title).size()) return NONE;
        Hold h = queue(title).get(i);
        return what == 0 ? h.patron : what == 1 ? h.branch : h.copy == null ? NONE : desk.copies.indexOf(h.copy);
    }

    int place(int patron, int title) {
        if (!patronExists(patron) || !titleExists(title)) return BAD;
        return holdOf(patron, title) == null ? NONE : queue(title).indexOf(holdOf(patron, title));
    }

    int estimate(int patron, int title) {
        if (!patronExists(patron) || !titleExists(title)) return BAD;
        int n = waitingOf(title).indexOf(holdOf(patron, title));
        List<Integer> days = new ArrayList<>();
        for (Copy c : desk.copies) {
            if (c.title == title && c.state == 1) days.add(Math.max(c.day, desk.day));
            if (c.title == title && c.state == 2 && c.hold == null) days.add(c.day);
        }
        days.sort(null);
        return n < 0 || n >= days.size() ? NONE : days.get(n);
    }

    int patronCount() {
        return desk.claims.size();
    }

    int owes(int patron) {
        return patronExists(patron) ? debt(patron) : BAD;
    }

    int accrued(int patron) {
        return patronExists(patron) ? loans(patron).stream().mapToInt(this::late).sum() : BAD;
    }

    int patron(int patron, int what) {
        if (!patronExists(patron) || what < 0 || what > 5) return BAD;
        switch (what) {
            case 0: return loans(patron).size();
            case 1: return (int) desk.holds.stream().filter(h -> h.patron == patron).count();
            case 2: return desk.claims.get(patron);
            case 3: return (int) loans(patron).stream().filter(c -> c.day < desk.day).count();
            case 4: return desk.entries.stream().filter(e -> e.numbers[1] == patron && e.numbers[0] < 2)
                .mapToInt(e -> e.numbers[2]).sum();
            default: return -desk.entries.stream().filter(e -> e.numbers[1] == patron && e.numbers[0] >= 2)
                .mapToInt(e -> e.numbers[2]).sum();
        }
    }

    private int ordered(List<Copy> copies, int i) {
        copies.sort(Comparator.comparingInt(c -> c.day));
        return i < 0 || i >= copies.size() ? NONE : desk.copies.indexOf(copies.get(i));
    }

    int loanOf(int patron, int i) {
        return patronExists(patron) ? ordered(loans(patron), i) : BAD;
    }

    int fine(int number) {
        Copy c = copyOf(number);
        if (c == null) return BAD;
        if (c.state == 1) return late(c);
        return c.state >= 4 ? c.noted : NONE;
    }

    private int lessen(int kind, int patron, int amount) {
        if (!patronExists(patron) || amount < 1 || amount > debt(patron)) return BAD;
        change();
        book(kind, patron, -amount, null);
        return debt(patron);
    }

    int pay(int patron, int amount) {
        return lessen(3, patron, amount);
    }

    int waive(int patron, int amount) {
        return lessen(4, patron, amount);
    }

    int ledgerSize() {
        return kept().size();
    }

    int ledger(int i, int what) {
        if (i < 0 || i >= kept().size() || what < 0 || what > 4) return Integer.MIN_VALUE;
        return kept().get(i).numbers[what];
    }

    int ledgerSum(int patron, int kind) {
        if (!patronExists(patron) || kind < -1 || kind > 4) return Integer.MIN_VALUE;
        return kept().stream().filter(e -> e.numbers[1] == patron && (kind == -1 || e.numbers[0] == kind))
            .mapToInt(e -> e.numbers[2]).sum();
    }

    int shelf(int branch, int i) {
        if (!branchExists(branch)) return BAD;
        List<Copy> there = desk.copies.stream().filter(c -> (c.state == 0 || c.state == 3) && c.place == branch)
            .collect(Collectors.toList());
        if (i == -1) return there.size();
        return i < 0 || i >= there.size() ? NONE : desk.copies.indexOf(there.get(i));
    }

    int arriving(int branch, int i) {
        if (!branchExists(branch)) return BAD;
        return ordered(desk.copies.stream().filter(c -> c.state == 2 && c.place == branch)
            .collect(Collectors.toList()), i);
    }

    int feed(int letter) {
        if (letter < 32 || letter > 126) return BAD;
        if (buffer.length() == 60) return FULL;
        buffer += (char) letter;
        return buffer.length();
    }

    private static final String NUMBER = " [0-9]{1,5}";
    private static final Pattern TEXT = Pattern.compile(grammar());

    private static String grammar() {
        String command = "(?:[oicp]" + NUMBER + NUMBER + "|h" + NUMBER + NUMBER + NUMBER + "|[rd]" + NUMBER + ")";
        return command + "(?:;" + command + ")*";
    }

    /** Whether some command text begins so: asked of the matcher, which tells whether it ran into the end. */
    private static boolean canContinue(String text) {
        Matcher matcher = TEXT.matcher(text);
        return matcher.matches() || matcher.hitEnd();
    }

    int execute() {
        String text = buffer;
        buffer = "";
        if (!TEXT.matcher(text).matches()) {
            int good = 0;
            while (good < text.length() && canContinue(text.substring(0, good + 1))) good++;
            return -200 - good;
        }
        String[] commands = text.split(";");
        Desk before = desk.twin();
        executing = true;
        for (int i = 0; i < commands.length; i++) {
            if (run(commands[i].split(" ")) < 0) {
                executing = false;
                desk = before;
                return -300 - i;
            }
        }
        executing = false;
        past.push(before);
        while (past.size() > 8) past.removeLast();
        return commands.length;
    }

    private int run(String[] words) {
        int a = Integer.parseInt(words[1]);
        int b = words.length > 2 ? Integer.parseInt(words[2]) : 0;
        switch (words[0]) {
            case "o": return lend(a, b);
            case "i": return bringBack(a, b);
            case "h": return hold(a, b, Integer.parseInt(words[3]));
            case "c": return cancelHold(a, b);
            case "r": return renew(a);
            case "d": return pass(a);
            default: return pay(a, b);
        }
    }

    int save() {
        snapshot = desk.twin();
        return desk.day;
    }

    int restore() {
        if (snapshot == null) return NONE;
        change();
        desk = snapshot.twin();
        return desk.day;
    }

    int undo() {
        if (past.isEmpty()) return NONE;
        desk = past.pop();
        return past.size();
    }
}
