import java.util.function.Consumer;
import java.util.function.ToIntFunction;

/** All that can be seen of a desk, as a text. What was undone, restored and fed for it is not put back. */
final class Seen {
    private static final int NONE = LibraryCirculation.NONE;

    private Seen() {
    }

    /** The state, then the buffer, then the state after each undo, then that of the snapshot. */
    static String of(LibraryCirculation x) {
        StringBuilder text = new StringBuilder(state(x));
        text.append("\nbuffer ").append(x.feed('x'));
        for (int left = x.undo(); left != NONE; left = x.undo()) {
            text.append("\nundone, left ").append(left).append(state(x));
        }
        text.append("\nsnapshot ").append(x.restore()).append(state(x));
        return text.toString();
    }

    /** The state alone; nothing is changed by the look at it. */
    static String state(LibraryCirculation x) {
        StringBuilder text = new StringBuilder("\nday ").append(x.day());
        for (int setting = 0; setting < 8; setting++) text.append(' ').append(x.setting(setting));
        for (int copy = 0; copy < x.copyCount(-1); copy++) {
            text.append("\ncopy");
            for (int what = 0; what < 10; what++) text.append(' ').append(x.copy(copy, what));
            text.append(' ').append(x.fine(copy));
        }
        for (int patron = 0; patron < x.patronCount(); patron++) {
            text.append("\npatron ").append(x.owes(patron));
            for (int what = 0; what < 6; what++) text.append(' ').append(x.patron(patron, what));
        }
        for (int title = 0; title < 6; title++) {
            text.append("\ntitle ").append(x.waiting(title));
            for (int i = 0; i < x.holdCount(title); i++) {
                for (int what = 0; what < 3; what++) text.append(' ').append(x.holdAt(title, i, what));
            }
        }
        text.append("\nledger");
        for (int i = 0; i < x.ledgerSize(); i++) {
            for (int what = 0; what < 5; what++) text.append(' ').append(x.ledger(i, what));
        }
        return text.toString();
    }

    /** The call has this answer, and a desk with it can't be told from one without it. */
    static void changesNothing(String call, Consumer<LibraryCirculation> before,
            ToIntFunction<LibraryCirculation> made, int want) {
        LibraryCirculation with = new LibraryCirculation();
        before.accept(with);
        LibraryCirculation without = new LibraryCirculation();
        before.accept(without);
        Due.is(call, made.applyAsInt(with), want);
        same(call + " changes nothing", of(with), of(without));
    }

    static void same(String what, String got, String want) {
        if (!got.equals(want)) System.out.println("seen:" + got + "\nbut due is:" + want);
        Due.holds(what, got.equals(want));
    }
}
