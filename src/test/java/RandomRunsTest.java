import java.util.ArrayList;
import java.util.List;
import java.util.Random;

/** Random runs of calls, whose answers are compared with those of the model, and whose state is looked over. */
public final class RandomRunsTest {
    private static final int CALLS = 512;
    private static final int RUNS = 400;
    private static final int[] EXTREMES = {Integer.MIN_VALUE, Integer.MIN_VALUE + 1, -4, -3, -2, -1, 20, 24, 60, 61,
        400, 401, 100001, Integer.MAX_VALUE - 1, Integer.MAX_VALUE};

    private final Random random;
    private final LibraryCirculation x = new LibraryCirculation();
    private final Model model = new Model();
    private final List<String> calls = new ArrayList<>();
    /** How often arguments are extremes, in a hundred. */
    private final int wildness;

    private RandomRunsTest(int seed, int wildness) {
        this.random = new Random(seed);
        this.wildness = wildness;
    }

    public static void main(String[] args) {
        for (int seed = 0; seed < RUNS && Due.wrong() == 0; seed++) {
            new RandomRunsTest(seed, seed % 4 == 3 ? 40 : 2).run(seed);
        }
        Due.end();
    }

    private void run(int seed) {
        int copies = 1 + random.nextInt(20);
        int titles = 1 + random.nextInt(6);
        int patrons = 1 + random.nextInt(8);
        for (int i = 0; i < copies; i++) addCopy(random.nextInt(titles), random.nextInt(4));
        for (int i = 0; i < patrons; i++) check("addPatron()", x.addPatron(), model.addPatron());
        if (random.nextBoolean()) set(1, 20);
        if (random.nextBoolean()) set(4, 100000);
        while (calls.size() < CALLS && Due.wrong() == 0) {
            change(random.nextInt(34));
            ask(random.nextInt(20));
            lookOver();
        }
        if (Due.wrong() > 0) {
            System.out.println("seed " + seed + ":");
            calls.forEach(System.out::println);
        }
    }

    private int below(int end) {
        if (random.nextInt(100) < wildness) return EXTREMES[random.nextInt(EXTREMES.length)];
        return random.nextInt(end);
    }

    private int copy() {
        return below(Math.max(1, x.copyCount(-1)));
    }

    private int patron() {
        return below(Math.max(1, x.patronCount()));
    }

    private void check(String call, int got, int want) {
        calls.add(call + " = " + got);
        Due.is(call, got, want);
    }

    private void addCopy(int title, int home) {
        check("addCopy(" + title + ", " + home + ")", x.addCopy(title, home), model.addCopy(title, home));
    }

    private void set(int setting, int value) {
        check("set(" + setting + ", " + value + ")", x.set(setting, value), model.set(setting, value));
    }

    private void change(int kind) {
        int c = copy();
        int p = patron();
        int t = below(6);
        int b = below(4);
        switch (kind) {
            case 0: addCopy(t, b); break;
            case 1: check("addPatron()", x.addPatron(), model.addPatron()); break;
            case 2: set(below(8), someValue()); break;
            case 3: {
                boolean on = random.nextBoolean();
                check("setFloating(" + c + ", " + on + ")", x.setFloating(c, on), model.setFloating(c, on));
                break;
            }
            case 4: case 5: case 6: case 7: case 8:
                check("lend(" + p + ", " + c + ")", x.lend(p, c), model.lend(p, c)); break;
            case 9: case 10: case 11: case 12:
                check("bringBack(" + c + ", " + b + ")", x.bringBack(c, b), model.bringBack(c, b)); break;
            case 13: case 14:
                check("renew(" + c + ")", x.renew(c), model.renew(c)); break;
            case 15: case 16:
                check("claim(" + c + ")", x.claim(c), model.claim(c)); break;
            case 17:
                check("lose(" + c + ")", x.lose(c), model.lose(c)); break;
            case 18: case 19: case 20: case 21: case 22: case 23:
                check("hold(" + p + ", " + t + ", " + b + ")", x.hold(p, t, b), model.hold(p, t, b)); break;
            case 24: case 25:
                check("cancelHold(" + p + ", " + t + ")", x.cancelHold(p, t), model.cancelHold(p, t)); break;
            case 26: pay(p); break;
            case 27: case 28: case 29: case 30: {
                int days = random.nextInt(8) == 0 ? below(400) : 1 + below(5);
                check("pass(" + days + ")", x.pass(days), model.pass(days));
                break;
            }
            case 31: case 32: execute(); break;
            default: history(random.nextInt(5));
        }
    }

    private int someValue() {
        int[] ends = {3, 20, 400, 12000, 120000};
        return below(ends[random.nextInt(ends.length)]);
    }

    private void pay(int p) {
        int owes = x.owes(p);
        int amount = random.nextInt(4) == 0 ? below(200) : owes > 0 ? 1 + random.nextInt(owes) : 1;
        if (random.nextBoolean()) {
            check("pay(" + p + ", " + amount + ")", x.pay(p, amount), model.pay(p, amount));
        } else {
            check("waive(" + p + ", " + amount + ")", x.waive(p, amount), model.waive(p, amount));
        }
    }

    private void history(int kind) {
        if (kind == 0) check("save()", x.save(), model.save());
        else if (kind == 1) check("restore()", x.restore(), model.restore());
        else check("undo()", x.undo(), model.undo());
    }

    private void execute() {
        StringBuilder text = new StringBuilder();
        int commands = 1 + random.nextInt(5);
        for (int i = 0; i < commands; i++) {
            if (i > 0) text.append(';');
            text.append(command());
        }
        if (random.nextInt(6) == 0) spoil(text);
        for (int i = 0; i < text.length(); i++) {
            Due.is("feed", x.feed(text.charAt(i)), model.feed(text.charAt(i)));
        }
        check("execute() of " + text, x.execute(), model.execute());
    }

    private String command() {
        int c = random.nextInt(Math.max(1, x.copyCount(-1)));
        int p = random.nextInt(Math.max(1, x.patronCount()));
        switch (random.nextInt(7)) {
            case 0: return "o " + p + " " + c;
            case 1: return "i " + c + " " + random.nextInt(4);
            case 2: return "h " + p + " " + random.nextInt(6) + " " + random.nextInt(4);
            case 3: return "c " + p + " " + random.nextInt(6);
            case 4: return "r " + c;
            case 5: return "d " + (1 + random.nextInt(9));
            default: return "p " + p + " " + (1 + random.nextInt(50));
        }
    }

    private void spoil(StringBuilder text) {
        String letters = " ;0123456789oihcrdpx~";
        char letter = letters.charAt(random.nextInt(letters.length()));
        int at = random.nextInt(text.length());
        if (random.nextBoolean()) text.setCharAt(at, letter);
        else text.insert(at, letter);
    }

    private void ask(int kind) {
        int c = copy();
        int p = patron();
        int t = below(6);
        int i = below(4);
        int w = below(6);
        switch (kind) {
            case 0: check("setting(" + i + ")", x.setting(i), model.setting(i)); break;
            case 1: check("copyCount(" + w + ")", x.copyCount(w), model.copyCount(w)); break;
            case 2: check("copy(" + c + ", " + w + ")", x.copy(c, w), model.copy(c, w)); break;
            case 3: check("day()", x.day(), model.day()); break;
            case 4: case 5: {
                int a = random.nextBoolean() ? c : p;
                int b = random.nextBoolean() ? 0 : below(7);
                check("reason(" + w + ", " + a + ", " + b + ")", x.reason(w, a, b), model.reason(w, a, b));
                break;
            }
            case 6: check("holdCount(" + t + ")", x.holdCount(t), model.holdCount(t)); break;
            case 7: check("waiting(" + t + ")", x.waiting(t), model.waiting(t)); break;
            case 8: check("holdAt(" + t + ", " + i + ", " + w + ")", x.holdAt(t, i, w), model.holdAt(t, i, w)); break;
            case 9: check("place(" + p + ", " + t + ")", x.place(p, t), model.place(p, t)); break;
            case 10: check("estimate(" + p + ", " + t + ")", x.estimate(p, t), model.estimate(p, t)); break;
            case 11: check("owes(" + p + ")", x.owes(p), model.owes(p)); break;
            case 12: check("accrued(" + p + ")", x.accrued(p), model.accrued(p)); break;
            case 13: check("patron(" + p + ", " + w + ")", x.patron(p, w), model.patron(p, w)); break;
            case 14: check("loanOf(" + p + ", " + i + ")", x.loanOf(p, i), model.loanOf(p, i)); break;
            case 15: check("fine(" + c + ")", x.fine(c), model.fine(c)); break;
            case 16: check("ledger(" + c + ", " + w + ")", x.ledger(c, w), model.ledger(c, w)); break;
            case 17: check("ledgerSum(" + p + ", " + w + ")", x.ledgerSum(p, w), model.ledgerSum(p, w)); break;
            case 18: check("shelf(" + i + ", " + w + ")", x.shelf(i, w), model.shelf(i, w)); break;
            default: check("arriving(" + i + ", " + w + ")", x.arriving(i, w), model.arriving(i, w));
        }
    }

    /** Compares all that can be seen, without counting it as calls. */
    private void lookOver() {
        Due.is("day", x.day(), model.day());
        Due.is("patronCount", x.patronCount(), model.patronCount());
        for (int s = 0; s < 8; s++) Due.is("setting", x.setting(s), model.setting(s));
        for (int c = 0; c < x.copyCount(-1); c++) {
            for (int what = 0; what < 10; what++) Due.is("copy " + c + " " + what, x.copy(c, what), model.copy(c, what));
            Due.is("fine", x.fine(c), model.fine(c));
            for (int kind = 1; kind < 4; kind++) Due.is("reason", x.reason(kind, c, 0), model.reason(kind, c, 0));
        }
        for (int p = 0; p < x.patronCount(); p++) lookOverPatron(p);
        for (int t = 0; t < 6; t++) lookOverTitle(t);
        for (int b = 0; b < 4; b++) {
            for (int i = -2; i < 8; i++) {
                Due.is("shelf", x.shelf(b, i), model.shelf(b, i));
                Due.is("arriving", x.arriving(b, i), model.arriving(b, i));
            }
        }
        Due.is("ledgerSize", x.ledgerSize(), model.ledgerSize());
        for (int what = 0; what < 5; what++) {
            int last = x.ledgerSize() - 1;
            Due.is("the first entry", x.ledger(0, what), model.ledger(0, what));
            Due.is("the last entry", x.ledger(last, what), model.ledger(last, what));
        }
    }

    private void lookOverPatron(int p) {
        Due.is("owes", x.owes(p), model.owes(p));
        Due.is("accrued", x.accrued(p), model.accrued(p));
        for (int what = 0; what < 6; what++) Due.is("patron", x.patron(p, what), model.patron(p, what));
        for (int kind = -1; kind < 5; kind++) Due.is("ledgerSum", x.ledgerSum(p, kind), model.ledgerSum(p, kind));
        for (int i = 0; i < 5; i++) Due.is("loanOf", x.loanOf(p, i), model.loanOf(p, i));
        for (int t = 0; t < 6; t++) {
            Due.is("place", x.place(p, t), model.place(p, t));
            Due.is("estimate", x.estimate(p, t), model.estimate(p, t));
            Due.is("reason", x.reason(4, p, t), model.reason(4, p, t));
        }
    }

    private void lookOverTitle(int t) {
        Due.is("holdCount", x.holdCount(t), model.holdCount(t));
        Due.is("waiting", x.waiting(t), model.waiting(t));
        for (int i = 0; i < x.holdCount(t); i++) {
            for (int what = 0; what < 3; what++) Due.is("holdAt", x.holdAt(t, i, what), model.holdAt(t, i, what));
        }
        if (x.waiting(t) == 0) return;
        for (int c = 0; c < x.copyCount(-1); c++) {
            Due.holds("no copy is on a shelf while a hold waits", x.copy(c, 0) != t || x.copy(c, 3) != 0);
        }
    }
}
